/-! ===== wars by a seed ===== -/
theorem ush16 (x : Int32) : sd_ush x 16 &&& 32767 = x >>> ((16 : Int32) &&& 31) &&& 32767 := by
  apply b_ext
  intro i hi
  rw [b_and, b_and]
  have hm : ∀ i, i < 32 → 15 ≤ i → bt 32767 i = false := by
    have h : ∀ i, i < 17 → bt 32767 (i + 15) = false := by decide +kernel
    intro i h1 h2
    have := h (i - 15) (by omega)
    rwa [show i - 15 + 15 = i by omega] at this
  by_cases h15 : i < 15
  · have e1 : bt (x >>> ((16 : Int32) &&& 31)) i = bt x (16 + i) := by
      have := b_sshr 16 (by omega) x hi
      rw [if_pos (by omega)] at this
      exact this
    have e2 : bt (sd_ush x 16) i = bt x (16 + i) := by
      unfold sd_ush bt
      show ((x.toBitVec >>> (16 : Nat))).getLsbD i = _
      rw [BitVec.getLsbD_ushiftRight]
    rw [e1, e2]
  · rw [hm i hi (by omega), Bool.and_false, Bool.and_false]
def dj (d : Int32) : Nat := (d >>> ((16 : Int32) &&& 31)).toBitVec.toNat % 2 ^ 15
theorem dj_eq (d : Int32) : d >>> ((16 : Int32) &&& 31) &&& 32767 = nI (dj d) := pk_and _ 15 (by decide)
theorem dj_lt (d : Int32) : dj d < 2 ^ 15 := Nat.mod_lt _ (by decide)
/-- what a draw does to one -/
def tn (s : Nat) (c : Nat → Int32) : Nat → Int32
  | 0 => if bt (c 0) s then c 0 &&& (b1 s ^^^ -1) else if bt (c 1) s then c 0 ||| b1 s else c 0
  | 1 => if bt (c 0) s then c 1 ||| b1 s else if bt (c 1) s then c 1 &&& (b1 s ^^^ -1) else c 1
  | k => c k
def wst (A : sA) (R : Nat → List Nat) (z : Int32 × (Nat → Int32)) : Int32 × (Nat → Int32) := if A 0 0 = 0 then (z.1, dy A R z.2) else (z.1 * 1103515245 + 12345, dy A R (tn (dj (z.1 * 1103515245 + 12345) % A 0 0) z.2))
def Wk (A : sA) (R : Nat → List Nat) (z : Int32 × (Nat → Int32)) : Nat → Int32 × (Nat → Int32)
  | 0 => z
  | k + 1 => wst A R (Wk A R z k)
def wfr (M I : sm_MI) : Prop := (∀ k, k ≠ 87 → k ≠ 89 → k ≠ 90 → k ≠ 61 → I k = M k) ∧ ∀ j, j ≠ 56 → I 61 j = M 61 j
section QU
variable {A : sA} {R : Nat → List Nat} {t : Nat} {C M I : sm_MI}
theorem wfr.ma (hm : mA A M) (h : wfr M I) : mA A I := mA_of hm (h.2 1 (by omega)) (h.2 2 (by omega)) (h.2 3 (by omega)) (fun k h1 h2 => h.1 k (by omega) (by omega) (by omega) (by omega))
theorem wfr.rm (hM : rM R M) (h : wfr M I) : rM R I := by
  unfold rM
  rw [h.1 _ (by omega) (by omega) (by omega) (by omega), h.1 _ (by omega) (by omega) (by omega) (by omega)]
  exact hM
theorem wfr.smM {M0 : sm_MI} (hs : smM M0 M) (h : wfr M I) : smM M0 I := by
  refine ⟨fun i h1 h2 => ?_, fun i h1 h2 h3 h4 h5 => ?_, fun i h1 => ?_⟩
  · rw [← hs.1 i h1 h2, h.2 i h2]
  · rw [← hs.2.1 i h1 h2 h3 h4 h5, h.1 i (by omega) (by omega) (by omega) (by omega)]
  · rw [← hs.2.2 i h1, h.1 i (by omega) (by omega) (by omega) (by omega)]
theorem c_turn {s : Nat} (hs : s < 32) : ∃ I', F_State_turn (nI s) I = some I' ∧ I' 20 = tn s (I 20) ∧ ∀ k, k ≠ 20 → I' k = I k := by
  unfold F_State_turn F_State_howIs F_State_seize F_State_letGo
  cases e0 : bt (I 20 0) s
  · cases e1 : bt (I 20 1) s
    · refine ⟨I, ?_, ?_, fun _ _ => rfl⟩
      · simp (disch := omega) only [↓g_in, ↓g_c0, ↓g_c1, ↓reduceIte, ↓y_lt, ↓y_q1, ↓y_q2, ↓sn_q3, ↓sn_t1l, ↓sn_t1r, ↓sn_t2l, ↓sn_t2r, y_q1, y_q2, sn_q3, sn_t1l, sn_t1r, sn_t2l, sn_t2r, nI_clamp, x_leT, x_leF, x_ltT, x_ltF, x_eqT, x_eqF, x_le0T, x_le0F, x_0leT, x_lt0F, x_0ltT, x_0ltF, x_eq0T, x_eq0F, x_le1T, x_le1F, x_1leT, x_1leF, x_1ltT, x_1ltF, x_lt1T, x_lt1F, x_eq1T, x_eq1F, x_m1F, nI_add, nI_1, sn_mul, x_sub, x_sub1, sn_m1, l2, l3, l4, l5, l6, l7, l8, l9, l10, l11, l12, l13, l14, l15, l20, l30, l40, l48, l60, l64, l99, l100, l700, l999, not_true_eq_false, not_false_eq_true, x_t0, x_t1, lts1, x_10, x_1sub, eq_self, Nat.reduceSub, Nat.reduceAdd, Nat.reduceMul, e0, e1]
      · funext k
        rcases k with _ | _ | k <;> simp only [tn, e0, e1, Bool.false_eq_true, if_false]
    · refine ⟨sd_up (sd_up I 20 1 (I 20 1 &&& (b1 s ^^^ -1))) 20 0 (I 20 0 ||| b1 s), ?_, ?_, fun k hk => by rw [up_n hk, up_n hk]⟩
      · simp (disch := omega) only [↓g_in, ↓g_c0, ↓g_c1, ↓reduceIte, ↓y_lt, ↓y_q1, ↓y_q2, ↓sn_q3, ↓sn_t1l, ↓sn_t1r, ↓sn_t2l, ↓sn_t2r, y_q1, y_q2, sn_q3, sn_t1l, sn_t1r, sn_t2l, sn_t2r, nI_clamp, x_leT, x_leF, x_ltT, x_ltF, x_eqT, x_eqF, x_le0T, x_le0F, x_0leT, x_lt0F, x_0ltT, x_0ltF, x_eq0T, x_eq0F, x_le1T, x_le1F, x_1leT, x_1leF, x_1ltT, x_1ltF, x_lt1T, x_lt1F, x_eq1T, x_eq1F, x_m1F, nI_add, nI_1, sn_mul, x_sub, x_sub1, sn_m1, l2, l3, l4, l5, l6, l7, l8, l9, l10, l11, l12, l13, l14, l15, l20, l30, l40, l48, l60, l64, l99, l100, l700, l999, not_true_eq_false, not_false_eq_true, x_t0, x_t1, lts1, x_10, x_1sub, eq_self, Nat.reduceSub, Nat.reduceAdd, Nat.reduceMul, e0, e1, Bool.true_eq_false, up_m]
      · funext k
        rcases k with _ | _ | k <;> simp (disch := omega) only [↓g_in, ↓g_c0, ↓g_c1, ↓reduceIte, y_lt, y_q1, y_q2, sn_q3, sn_t1l, sn_t1r, sn_t2l, sn_t2r, nI_clamp, x_leT, x_leF, x_ltT, x_ltF, x_eqT, x_eqF, x_le0T, x_le0F, x_0leT, x_lt0F, x_0ltT, x_0ltF, x_eq0T, x_eq0F, x_le1T, x_le1F, x_1leT, x_1leF, x_1ltT, x_1ltF, x_lt1T, x_lt1F, x_eq1T, x_eq1F, x_m1F, nI_add, nI_1, sn_mul, x_sub, x_sub1, sn_m1, l2, l3, l4, l5, l6, l7, l8, l9, l10, l11, l12, l13, l14, l15, l20, l30, l40, l48, l60, l64, l99, l100, l700, l999, not_true_eq_false, not_false_eq_true, x_t0, x_t1, lts1, x_10, x_1sub, eq_self, Nat.reduceSub, Nat.reduceAdd, Nat.reduceMul, up_s, up_m] <;> simp only [tn, e0, e1, Bool.false_eq_true, if_false, if_true]
  · refine ⟨sd_up (sd_up I 20 0 (I 20 0 &&& (b1 s ^^^ -1))) 20 1 (I 20 1 ||| b1 s), ?_, ?_, fun k hk => by rw [up_n hk, up_n hk]⟩
    · simp (disch := omega) only [↓g_in, ↓g_c0, ↓g_c1, ↓reduceIte, ↓y_lt, ↓y_q1, ↓y_q2, ↓sn_q3, ↓sn_t1l, ↓sn_t1r, ↓sn_t2l, ↓sn_t2r, y_q1, y_q2, sn_q3, sn_t1l, sn_t1r, sn_t2l, sn_t2r, nI_clamp, x_leT, x_leF, x_ltT, x_ltF, x_eqT, x_eqF, x_le0T, x_le0F, x_0leT, x_lt0F, x_0ltT, x_0ltF, x_eq0T, x_eq0F, x_le1T, x_le1F, x_1leT, x_1leF, x_1ltT, x_1ltF, x_lt1T, x_lt1F, x_eq1T, x_eq1F, x_m1F, nI_add, nI_1, sn_mul, x_sub, x_sub1, sn_m1, l2, l3, l4, l5, l6, l7, l8, l9, l10, l11, l12, l13, l14, l15, l20, l30, l40, l48, l60, l64, l99, l100, l700, l999, not_true_eq_false, not_false_eq_true, x_t0, x_t1, lts1, x_10, x_1sub, eq_self, Nat.reduceSub, Nat.reduceAdd, Nat.reduceMul, e0, Bool.true_eq_false, up_m]
    · funext k
      rcases k with _ | _ | k <;> simp (disch := omega) only [↓g_in, ↓g_c0, ↓g_c1, ↓reduceIte, y_lt, y_q1, y_q2, sn_q3, sn_t1l, sn_t1r, sn_t2l, sn_t2r, nI_clamp, x_leT, x_leF, x_ltT, x_ltF, x_eqT, x_eqF, x_le0T, x_le0F, x_0leT, x_lt0F, x_0ltT, x_0ltF, x_eq0T, x_eq0F, x_le1T, x_le1F, x_1leT, x_1leF, x_1ltT, x_1ltF, x_lt1T, x_lt1F, x_eq1T, x_eq1F, x_m1F, nI_add, nI_1, sn_mul, x_sub, x_sub1, sn_m1, l2, l3, l4, l5, l6, l7, l8, l9, l10, l11, l12, l13, l14, l15, l20, l30, l40, l48, l60, l64, l99, l100, l700, l999, not_true_eq_false, not_false_eq_true, x_t0, x_t1, lts1, x_10, x_1sub, eq_self, Nat.reduceSub, Nat.reduceAdd, Nat.reduceMul, up_s, up_m] <;> simp only [tn, e0, if_true]
theorem stR_tn {n s : Nat} {m m' c : Nat → Int32} (hn : n ≤ 14) (hs : s < n) (h : stR n m c) (h1 : ∀ q, q ≠ s → m' q = m q) (h2 : m' s = if m s = 0 then 1 else if m s = 1 then 0 else nI 2) : stR n m' (tn s c) := by
  have b3 : ∀ q, q < 32 → bt (b1 s) q = decide (s = q) := fun q hq => bt_b1 (by omega) hq
  obtain ⟨a1, a2, a3, a4⟩ := h
  have t2 : tn s c 2 = c 2 := rfl
  have t0 : tn s c 0 = if bt (c 0) s then c 0 &&& (b1 s ^^^ -1) else if bt (c 1) s then c 0 ||| b1 s else c 0 := rfl
  have t1 : tn s c 1 = if bt (c 0) s then c 1 ||| b1 s else if bt (c 1) s then c 1 &&& (b1 s ^^^ -1) else c 1 := rfl
  have ob : ∀ q, q ≠ s → bt (tn s c 0) q = bt (c 0) q ∧ bt (tn s c 1) q = bt (c 1) q := fun q hq => by
    by_cases h32 : q < 32
    · have hd : decide (s = q) = false := decide_eq_false (fun z => hq z.symm)
      rw [t0, t1]
      refine ⟨?_, ?_⟩
      · split
        · rw [b_and, bt_not h32, b3 q h32, hd]; simp
        · split
          · rw [b_or, b3 q h32, hd, Bool.or_false]
          · rfl
      · split
        · rw [b_or, b3 q h32, hd, Bool.or_false]
        · split
          · rw [b_and, bt_not h32, b3 q h32, hd]; simp
          · rfl
    · rw [b_big (by omega), b_big (by omega), b_big (by omega), b_big (by omega)]
      exact ⟨rfl, rfl⟩
  refine ⟨fun i hi => ?_, fun q hq => ?_, ?_, ?_⟩
  · obtain ⟨o1, o2⟩ := ob i (by omega)
    rw [o1, o2, t2]
    exact a1 i hi
  · by_cases e : q = s
    · subst e
      have hd : bt (b1 q) q = true := by rw [b3 q (by omega), decide_eq_true rfl]
      rw [h2, t2]
      rcases a2 q hq with ⟨e1, e2, e3, e4⟩ | ⟨e1, e2, e3, e4⟩ | ⟨e1, e2, e3, e4⟩
      · right; left
        refine ⟨by rw [e1, if_pos rfl], ?_, ?_, e4⟩
        · show bt (if bt (c 0) q then _ else _) q = false
          rw [e2, if_pos rfl, b_and, bt_not (by omega), hd]; simp
        · show bt (if bt (c 0) q then _ else _) q = true
          rw [e2, if_pos rfl, b_or, hd, Bool.or_true]
      · left
        refine ⟨by rw [e1, if_neg n10, if_pos rfl], ?_, ?_, e4⟩
        · show bt (if bt (c 0) q then _ else if bt (c 1) q then _ else _) q = true
          rw [e2, e3, if_neg Bool.false_ne_true, if_pos rfl, b_or, hd, Bool.or_true]
        · show bt (if bt (c 0) q then _ else if bt (c 1) q then _ else _) q = false
          rw [e2, e3, if_neg Bool.false_ne_true, if_pos rfl, b_and, bt_not (by omega), hd]; simp
      · right; right
        refine ⟨by rw [e1, if_neg n20, if_neg n21], ?_, ?_, e4⟩
        · show bt (if bt (c 0) q then _ else if bt (c 1) q then _ else _) q = false
          rw [e2, e3, if_neg Bool.false_ne_true, if_neg Bool.false_ne_true]; exact e2
        · show bt (if bt (c 0) q then _ else if bt (c 1) q then _ else _) q = false
          rw [e2, e3, if_neg Bool.false_ne_true, if_neg Bool.false_ne_true]; exact e3
    · obtain ⟨o1, o2⟩ := ob q e
      rw [h1 q e, o1, o2, t2]
      exact a2 q hq
  · rw [h1 14 (by omega)]; exact a3
  · rw [h1 15 (by omega)]; exact a4
theorem m_dayW (hw : wA A) (hr : rW R) (hm : mA A M) (hM : rM R M) {d : Nat → Int32} (h : wfr M I) (hd : stR (A 0 0) (I 87) d) : ∃ I', F_Mo_dayGoes 87 I = some (nI (pc (fl A R d)), I') ∧ stR (A 0 0) (I' 87) (dy A R d) ∧ wfr M I' ∧ I' 61 56 = I 61 56 := by
  obtain ⟨I', e1, e2, e3⟩ := m_day (p := 87) hw hr (h.ma hm) (h.rm hM) hd (by omega) (by omega)
  exact ⟨I', e1, e2, ⟨fun k h1 h2 h3 h4 => by rw [e3 k h2 h3 h1, h.1 k h1 h2 h3 h4], fun j hj => by rw [e3 61 (by omega) (by omega) (by omega), h.2 j hj]⟩, by rw [e3 61 (by omega) (by omega) (by omega)]⟩
def wre (A : sA) (c : Nat → Int32) (d : Nat → Int32) (w : Nat) : Int32 := if w = 0 then nI (pc (d 2)) else if w = 1 then d 4 - c 4 else nI (pc (sg A (d 0)))
theorem q_wars (h : Rel A R t C M) (x y z : Int32) : ∃ r C', F_VM_wars t x y z C = some (r, C') ∧ csm t C C' ∧ mq (F_Mo_wars x y z M) M (cv r) := by
  obtain ⟨M1, hM1, h0, h, hs⟩ := h.start
  have hw := h.wa
  have hr := h.rw
  have hn := hw.1
  have ht := h.tt
  unfold F_VM_wars F_Mo_wars
  rw [hM1]
  rcases ix_or z (n := 3) (by omega) with hz | ⟨w, hk, rfl⟩
  · refine ⟨.inr 1, C, ?_, csm.refl, mq_t hs (v := 0) ?_⟩
    · rcases hz with h | h
      · rw [if_pos h]
      · rw [if_neg (ix_lt h (by omega)), if_neg (show ¬ z ≤ (2 : Int32) from ix_99 (n := 2) h (by omega))]
    · simp (disch := omega) only [↓g_in, ↓g_c0, ↓g_c1, ↓reduceIte, ↓y_lt, ↓y_q1, ↓y_q2, ↓sn_q3, ↓sn_t1l, ↓sn_t1r, ↓sn_t2l, ↓sn_t2r, y_q1, y_q2, sn_q3, sn_t1l, sn_t1r, sn_t2l, sn_t2r, nI_clamp, x_leT, x_leF, x_ltT, x_ltF, x_eqT, x_eqF, x_le0T, x_le0F, x_0leT, x_lt0F, x_0ltT, x_0ltF, x_eq0T, x_eq0F, x_le1T, x_le1F, x_1leT, x_1leF, x_1ltT, x_1ltF, x_lt1T, x_lt1F, x_eq1T, x_eq1F, x_m1F, nI_add, nI_1, sn_mul, x_sub, x_sub1, sn_m1, l2, l3, l4, l5, l6, l7, l8, l9, l10, l11, l12, l13, l14, l15, l20, l30, l40, l48, l60, l64, l99, l100, l700, l999, not_true_eq_false, not_false_eq_true, x_t0, x_t1, lts1, x_10, x_1sub, eq_self, Nat.reduceSub, Nat.reduceAdd, Nat.reduceMul, ↓q2_of (m_isW0 (y := 2) (n := 2) h0 hz (by omega) rfl)]
  · have hw2 := m_isW1 (M := M1) (s := w) (y := 2) (n := 2) h0 hk (by omega) rfl
    rcases ix_or y (n := 61) (by omega) with hy | ⟨n, hny, rfl⟩
    · refine ⟨.inr 0, C, ?_, csm.refl, mq_t hs (v := 0) ?_⟩
      · rcases hy with h | h
        · simp (disch := omega) only [↓g_in, ↓g_c0, ↓g_c1, ↓reduceIte, ↓y_lt, ↓y_q1, ↓y_q2, ↓sn_q3, ↓sn_t1l, ↓sn_t1r, ↓sn_t2l, ↓sn_t2r, y_q1, y_q2, sn_q3, sn_t1l, sn_t1r, sn_t2l, sn_t2r, nI_clamp, x_leT, x_leF, x_ltT, x_ltF, x_eqT, x_eqF, x_le0T, x_le0F, x_0leT, x_lt0F, x_0ltT, x_0ltF, x_eq0T, x_eq0F, x_le1T, x_le1F, x_1leT, x_1leF, x_1ltT, x_1ltF, x_lt1T, x_lt1F, x_eq1T, x_eq1F, x_m1F, nI_add, nI_1, sn_mul, x_sub, x_sub1, sn_m1, l2, l3, l4, l5, l6, l7, l8, l9, l10, l11, l12, l13, l14, l15, l20, l30, l40, l48, l60, l64, l99, l100, l700, l999, not_true_eq_false, not_false_eq_true, x_t0, x_t1, lts1, x_10, x_1sub, eq_self, Nat.reduceSub, Nat.reduceAdd, Nat.reduceMul, h]
        · have e1 := ix_lt h (by omega)
          have e2 : ¬ y ≤ nI 60 := ix_99 (n := 60) h (by omega)
          simp (disch := omega) only [↓g_in, ↓g_c0, ↓g_c1, ↓reduceIte, ↓y_lt, ↓y_q1, ↓y_q2, ↓sn_q3, ↓sn_t1l, ↓sn_t1r, ↓sn_t2l, ↓sn_t2r, y_q1, y_q2, sn_q3, sn_t1l, sn_t1r, sn_t2l, sn_t2r, nI_clamp, x_leT, x_leF, x_ltT, x_ltF, x_eqT, x_eqF, x_le0T, x_le0F, x_0leT, x_lt0F, x_0ltT, x_0ltF, x_eq0T, x_eq0F, x_le1T, x_le1F, x_1leT, x_1leF, x_1ltT, x_1ltF, x_lt1T, x_lt1F, x_eq1T, x_eq1F, x_m1F, nI_add, nI_1, sn_mul, x_sub, x_sub1, sn_m1, l2, l3, l4, l5, l6, l7, l8, l9, l10, l11, l12, l13, l14, l15, l20, l30, l40, l48, l60, l64, l99, l100, l700, l999, not_true_eq_false, not_false_eq_true, x_t0, x_t1, lts1, x_10, x_1sub, eq_self, Nat.reduceSub, Nat.reduceAdd, Nat.reduceMul, e1, e2]
      · simp (disch := omega) only [↓g_in, ↓g_c0, ↓g_c1, ↓reduceIte, ↓y_lt, ↓y_q1, ↓y_q2, ↓sn_q3, ↓sn_t1l, ↓sn_t1r, ↓sn_t2l, ↓sn_t2r, y_q1, y_q2, sn_q3, sn_t1l, sn_t1r, sn_t2l, sn_t2r, nI_clamp, x_leT, x_leF, x_ltT, x_ltF, x_eqT, x_eqF, x_le0T, x_le0F, x_0leT, x_lt0F, x_0ltT, x_0ltF, x_eq0T, x_eq0F, x_le1T, x_le1F, x_1leT, x_1leF, x_1ltT, x_1ltF, x_lt1T, x_lt1F, x_eq1T, x_eq1F, x_m1F, nI_add, nI_1, sn_mul, x_sub, x_sub1, sn_m1, l2, l3, l4, l5, l6, l7, l8, l9, l10, l11, l12, l13, l14, l15, l20, l30, l40, l48, l60, l64, l99, l100, l700, l999, not_true_eq_false, not_false_eq_true, x_t0, x_t1, lts1, x_10, x_1sub, eq_self, Nat.reduceSub, Nat.reduceAdd, Nat.reduceMul, ↓q2_of hw2, ↓q1_of (m_wi0 (y := 60) (n := 60) hy (by omega) rfl), ↓q2_of (m_rt0 (e := 2) h0 (by decide))]
    · obtain ⟨I1, c, e1, e2, e2c, e3, e4⟩ := c_trial h
      obtain ⟨J1, e5, e6, e7⟩ := m_trial h e4
      have ml := lp_R (fun f j s => F_Mo_wars_29 f (nI n) (nI w) j s) (fun k s => stR (A 0 0) (s 87) (Wk A R (x, c) k).2 ∧ s 61 56 = (Wk A R (x, c) k).1 ∧ wfr M1 s) (fun b => b.1 = wre A c (Wk A R (x, c) n).2 w ∧ wfr M1 b.2 ∧ stR (A 0 0) (b.2 87) (Wk A R (x, c) n).2) n (sd_up J1 61 56 x) ⟨by rw [up_n (by omega)]; exact e6, up_s, ⟨fun k h1 h2 h3 h4 => by rw [up_n h4, e7 k h1 h2 h3], fun j hj => by rw [up_m hj, e7 61 (by omega) (by omega) (by omega)]⟩⟩ (by omega) ?_ ?_
      · obtain ⟨⟨v2, M'⟩, k4, k5, k6, k7⟩ := ml
        have k5 : v2 = wre A c (Wk A R (x, c) n).2 w := k5
        have k6 : wfr M1 M' := k6
        have k7 : stR (A 0 0) (M' 87) (Wk A R (x, c) n).2 := k7
        subst k5
        have hlo := stR_lo hn k7
        have cl := lp_R (fun f j (s : Int32 × sm_MI) => F_VM_wars_30 t f (nI n) (nI w) s.1 j s.2) (fun k s => s.2 20 = (Wk A R (x, c) k).2 ∧ s.1 = (Wk A R (x, c) k).1 ∧ cfr t C s.2) (fun b => b.1 = .inl (wre A c (Wk A R (x, c) n).2 w) ∧ cfr t C b.2) n (x, I1) ⟨e2, rfl, e3⟩ (by omega) ?_ ?_
        · obtain ⟨⟨v1, C'⟩, k1, k2, k3⟩ := cl
          have k2 : v1 = .inl (wre A c (Wk A R (x, c) n).2 w) := k2
          subst k2
          have k3 : cfr t C C' := k3
          have k1 : F_VM_wars_30 t sd_fu (nI n) (nI w) x 0 I1 = _ := k1
          have k4 : F_Mo_wars_29 sd_fu (nI n) (nI w) 0 (sd_up J1 61 56 x) = _ := k4
          refine ⟨.inl (wre A c (Wk A R (x, c) n).2 w), C', ?_, k3.csm, mq_v (M' := M') ?_ (by have k8 : M' 61 0 = M1 61 0 := k6.2 0 (by omega); rw [k8]; exact h0) (wfr.smM hs k6)⟩
          · simp (disch := omega) only [↓g_in, ↓g_c0, ↓g_c1, ↓reduceIte, ↓y_lt, ↓y_q1, ↓y_q2, ↓sn_q3, ↓sn_t1l, ↓sn_t1r, ↓sn_t2l, ↓sn_t2r, y_q1, y_q2, sn_q3, sn_t1l, sn_t1r, sn_t2l, sn_t2r, nI_clamp, x_leT, x_leF, x_ltT, x_ltF, x_eqT, x_eqF, x_le0T, x_le0F, x_0leT, x_lt0F, x_0ltT, x_0ltF, x_eq0T, x_eq0F, x_le1T, x_le1F, x_1leT, x_1leF, x_1ltT, x_1ltF, x_lt1T, x_lt1F, x_eq1T, x_eq1F, x_m1F, nI_add, nI_1, sn_mul, x_sub, x_sub1, sn_m1, l2, l3, l4, l5, l6, l7, l8, l9, l10, l11, l12, l13, l14, l15, l20, l30, l40, l48, l60, l64, l99, l100, l700, l999, not_true_eq_false, not_false_eq_true, x_t0, x_t1, lts1, x_10, x_1sub, eq_self, Nat.reduceSub, Nat.reduceAdd, Nat.reduceMul, ↓q1_of e1]
            exact k1
          · simp (disch := omega) only [↓g_in, ↓g_c0, ↓g_c1, ↓reduceIte, ↓y_lt, ↓y_q1, ↓y_q2, ↓sn_q3, ↓sn_t1l, ↓sn_t1r, ↓sn_t2l, ↓sn_t2r, y_q1, y_q2, sn_q3, sn_t1l, sn_t1r, sn_t2l, sn_t2r, nI_clamp, x_leT, x_leF, x_ltT, x_ltF, x_eqT, x_eqF, x_le0T, x_le0F, x_0leT, x_lt0F, x_0ltT, x_0ltF, x_eq0T, x_eq0F, x_le1T, x_le1F, x_1leT, x_1leF, x_1ltT, x_1ltF, x_lt1T, x_lt1F, x_eq1T, x_eq1F, x_m1F, nI_add, nI_1, sn_mul, x_sub, x_sub1, sn_m1, l2, l3, l4, l5, l6, l7, l8, l9, l10, l11, l12, l13, l14, l15, l20, l30, l40, l48, l60, l64, l99, l100, l700, l999, not_true_eq_false, not_false_eq_true, x_t0, x_t1, lts1, x_10, x_1sub, eq_self, Nat.reduceSub, Nat.reduceAdd, Nat.reduceMul, ↓q2_of hw2, ↓q1_of (m_wi1 (y := 60) (n := 60) hny (by omega) rfl), ↓q2_of (m_rt1 (x := 1) (e := 2) h0 n10), ↓q1_of e5]
            exact k4
        · rintro f ⟨d, s⟩ ⟨h1, h2, h3⟩
          have h1 : s 20 = (Wk A R (x, c) n).2 := h1
          have h3 : cfr t C s := h3
          have hcs := h3.ca ht h.ca
          refine ⟨(.inl (wre A c (Wk A R (x, c) n).2 w), s), ?_, rfl, h3⟩
          show F_VM_wars_30B t (F_VM_wars_30 t f) (nI n) (nI w) d (nI n) s = _
          unfold F_VM_wars_30B wre
          rw [if_pos (Int32.le_refl _), h1, h3 9 (by omega) (by omega) (by omega), ← e2c 4 (by omega)]
          rcases (show w = 0 ∨ w = 1 ∨ w = 2 by omega) with rfl | rfl | rfl
          · simp (disch := omega) only [↓g_in, ↓g_c0, ↓g_c1, ↓reduceIte, ↓y_lt, ↓y_q1, ↓y_q2, ↓sn_q3, ↓sn_t1l, ↓sn_t1r, ↓sn_t2l, ↓sn_t2r, y_q1, y_q2, sn_q3, sn_t1l, sn_t1r, sn_t2l, sn_t2r, nI_clamp, x_leT, x_leF, x_ltT, x_ltF, x_eqT, x_eqF, x_le0T, x_le0F, x_0leT, x_lt0F, x_0ltT, x_0ltF, x_eq0T, x_eq0F, x_le1T, x_le1F, x_1leT, x_1leF, x_1ltT, x_1ltF, x_lt1T, x_lt1F, x_eq1T, x_eq1F, x_m1F, nI_add, nI_1, sn_mul, x_sub, x_sub1, sn_m1, l2, l3, l4, l5, l6, l7, l8, l9, l10, l11, l12, l13, l14, l15, l20, l30, l40, l48, l60, l64, l99, l100, l700, l999, not_true_eq_false, not_false_eq_true, x_t0, x_t1, lts1, x_10, x_1sub, eq_self, Nat.reduceSub, Nat.reduceAdd, Nat.reduceMul, int_bc hlo.2.2]
          · simp (disch := omega) only [↓g_in, ↓g_c0, ↓g_c1, ↓reduceIte, ↓y_lt, ↓y_q1, ↓y_q2, ↓sn_q3, ↓sn_t1l, ↓sn_t1r, ↓sn_t2l, ↓sn_t2r, y_q1, y_q2, sn_q3, sn_t1l, sn_t1r, sn_t2l, sn_t2r, nI_clamp, x_leT, x_leF, x_ltT, x_ltF, x_eqT, x_eqF, x_le0T, x_le0F, x_0leT, x_lt0F, x_0ltT, x_0ltF, x_eq0T, x_eq0F, x_le1T, x_le1F, x_1leT, x_1leF, x_1ltT, x_1ltF, x_lt1T, x_lt1F, x_eq1T, x_eq1F, x_m1F, nI_add, nI_1, sn_mul, x_sub, x_sub1, sn_m1, l2, l3, l4, l5, l6, l7, l8, l9, l10, l11, l12, l13, l14, l15, l20, l30, l40, l48, l60, l64, l99, l100, l700, l999, not_true_eq_false, not_false_eq_true, x_t0, x_t1, lts1, x_10, x_1sub, eq_self, Nat.reduceSub, Nat.reduceAdd, Nat.reduceMul, Nat.one_ne_zero]
          · simp (disch := omega) only [↓g_in, ↓g_c0, ↓g_c1, ↓reduceIte, ↓y_lt, ↓y_q1, ↓y_q2, ↓sn_q3, ↓sn_t1l, ↓sn_t1r, ↓sn_t2l, ↓sn_t2r, y_q1, y_q2, sn_q3, sn_t1l, sn_t1r, sn_t2l, sn_t2r, nI_clamp, x_leT, x_leF, x_ltT, x_ltF, x_eqT, x_eqF, x_le0T, x_le0F, x_0leT, x_lt0F, x_0ltT, x_0ltF, x_eq0T, x_eq0F, x_le1T, x_le1F, x_1leT, x_1leF, x_1ltT, x_1ltF, x_lt1T, x_lt1F, x_eq1T, x_eq1F, x_m1F, nI_add, nI_1, sn_mul, x_sub, x_sub1, sn_m1, l2, l3, l4, l5, l6, l7, l8, l9, l10, l11, l12, l13, l14, l15, l20, l30, l40, l48, l60, l64, l99, l100, l700, l999, not_true_eq_false, not_false_eq_true, x_t0, x_t1, lts1, x_10, x_1sub, eq_self, Nat.reduceSub, Nat.reduceAdd, Nat.reduceMul, c_singable hw hcs, int_bc lo14_sg, n2_0, n2_1]
        · rintro f k ⟨d, s⟩ hkn ⟨h1, h2, h3⟩
          have h1 : s 20 = (Wk A R (x, c) k).2 := h1
          have h2 : d = (Wk A R (x, c) k).1 := h2
          have h3 : cfr t C s := h3
          have hcs := h3.ca ht h.ca
          have ek : Wk A R (x, c) (k + 1) = wst A R (Wk A R (x, c) k) := rfl
          left
          by_cases hn0 : A 0 0 = 0
          · obtain ⟨s', d1, d2, d3⟩ := cday hw hr ht h.ca h.rc h3 h1
            have ew : wst A R (Wk A R (x, c) k) = (d, dy A R (Wk A R (x, c) k).2) := by unfold wst; rw [if_pos hn0, h2]
            refine ⟨(d, s'), ⟨by show s' 20 = _; rw [ek, ew]; exact d2, by show d = _; rw [ek, ew], d3⟩, ?_⟩
            show F_VM_wars_30B t (F_VM_wars_30 t f) (nI n) (nI w) d (nI k) s = _
            unfold F_VM_wars_30B F_VM_wars_55
            rw [if_neg (nI_ge hkn (by omega)), hcs.1, hn0, if_pos (show nI 0 ≤ 0 by decide), d1, sn_q2, nI_1]
          · have hjn : dj (d * 1103515245 + 12345) % A 0 0 < A 0 0 := Nat.mod_lt _ (by omega)
            have hjl := dj_lt (d * 1103515245 + 12345)
            obtain ⟨s1, t1, t2, t3⟩ := c_turn (I := s) (s := dj (d * 1103515245 + 12345) % A 0 0) (by omega)
            have hf1 : cfr t C s1 := fun q a b e => by rw [t3 q a, h3 q a b e]
            rw [h1] at t2
            obtain ⟨s', d1, d2, d3⟩ := cday hw hr ht h.ca h.rc hf1 t2
            have ew : wst A R (Wk A R (x, c) k) = (d * 1103515245 + 12345, dy A R (tn (dj (d * 1103515245 + 12345) % A 0 0) (Wk A R (x, c) k).2)) := by unfold wst; rw [if_neg hn0, ← h2]
            refine ⟨(d * 1103515245 + 12345, s'), ⟨by show s' 20 = _; rw [ek, ew]; exact d2, by show d * 1103515245 + 12345 = _; rw [ek, ew], d3⟩, ?_⟩
            show F_VM_wars_30B t (F_VM_wars_30 t f) (nI n) (nI w) d (nI k) s = _
            unfold F_VM_wars_30B F_VM_wars_55
            rw [if_neg (nI_ge hkn (by omega)), hcs.1, if_neg (nI_nle (by omega) (by omega)), y_lt, sn_gu (nI_ne0 (by omega) (by omega)), ush16, dj_eq, sn_mod (by omega) (by omega) (by omega), t1, sn_q1, d1, sn_q2, nI_1]
      · intro f s hsx
        obtain ⟨h1, h2, h3⟩ := hsx
        have hms := h3.ma h.ma
        have a2 := mo_so2 hw hms h1
        refine ⟨(wre A c (Wk A R (x, c) n).2 w, s), ?_, rfl, h3, h1⟩
        have g15 : ∀ {α : Type} {o : Option α}, sd_gu (sm_in 15 16 = true) o = o := fun {α o} => sn_gu (by decide)
        show F_Mo_wars_29B (F_Mo_wars_29 f) (nI n) (nI w) (nI n) s = _
        unfold F_Mo_wars_29B wre
        rw [if_pos (Int32.le_refl _), g15, g15, h1.2.2.2, h3.1 86 (by omega) (by omega) (by omega) (by omega), e4.2.2.2]
        rcases (show w = 0 ∨ w = 1 ∨ w = 2 by omega) with rfl | rfl | rfl
        · simp (disch := omega) only [↓g_in, ↓g_c0, ↓g_c1, ↓reduceIte, ↓y_lt, ↓y_q1, ↓y_q2, ↓sn_q3, ↓sn_t1l, ↓sn_t1r, ↓sn_t2l, ↓sn_t2r, y_q1, y_q2, sn_q3, sn_t1l, sn_t1r, sn_t2l, sn_t2r, nI_clamp, x_leT, x_leF, x_ltT, x_ltF, x_eqT, x_eqF, x_le0T, x_le0F, x_0leT, x_lt0F, x_0ltT, x_0ltF, x_eq0T, x_eq0F, x_le1T, x_le1F, x_1leT, x_1leF, x_1ltT, x_1ltF, x_lt1T, x_lt1F, x_eq1T, x_eq1F, x_m1F, nI_add, nI_1, sn_mul, x_sub, x_sub1, sn_m1, l2, l3, l4, l5, l6, l7, l8, l9, l10, l11, l12, l13, l14, l15, l20, l30, l40, l48, l60, l64, l99, l100, l700, l999, not_true_eq_false, not_false_eq_true, x_t0, x_t1, lts1, x_10, x_1sub, eq_self, Nat.reduceSub, Nat.reduceAdd, Nat.reduceMul, a2, mo_bits]
        · simp (disch := omega) only [↓g_in, ↓g_c0, ↓g_c1, ↓reduceIte, ↓y_lt, ↓y_q1, ↓y_q2, ↓sn_q3, ↓sn_t1l, ↓sn_t1r, ↓sn_t2l, ↓sn_t2r, y_q1, y_q2, sn_q3, sn_t1l, sn_t1r, sn_t2l, sn_t2r, nI_clamp, x_leT, x_leF, x_ltT, x_ltF, x_eqT, x_eqF, x_le0T, x_le0F, x_0leT, x_lt0F, x_0ltT, x_0ltF, x_eq0T, x_eq0F, x_le1T, x_le1F, x_1leT, x_1leF, x_1ltT, x_1ltF, x_lt1T, x_lt1F, x_eq1T, x_eq1F, x_m1F, nI_add, nI_1, sn_mul, x_sub, x_sub1, sn_m1, l2, l3, l4, l5, l6, l7, l8, l9, l10, l11, l12, l13, l14, l15, l20, l30, l40, l48, l60, l64, l99, l100, l700, l999, not_true_eq_false, not_false_eq_true, x_t0, x_t1, lts1, x_10, x_1sub, eq_self, Nat.reduceSub, Nat.reduceAdd, Nat.reduceMul, Nat.one_ne_zero]
        · simp (disch := omega) only [↓g_in, ↓g_c0, ↓g_c1, ↓reduceIte, ↓y_lt, ↓y_q1, ↓y_q2, ↓sn_q3, ↓sn_t1l, ↓sn_t1r, ↓sn_t2l, ↓sn_t2r, y_q1, y_q2, sn_q3, sn_t1l, sn_t1r, sn_t2l, sn_t2r, nI_clamp, x_leT, x_leF, x_ltT, x_ltF, x_eqT, x_eqF, x_le0T, x_le0F, x_0leT, x_lt0F, x_0ltT, x_0ltF, x_eq0T, x_eq0F, x_le1T, x_le1F, x_1leT, x_1leF, x_1ltT, x_1ltF, x_lt1T, x_lt1F, x_eq1T, x_eq1F, x_m1F, nI_add, nI_1, sn_mul, x_sub, x_sub1, sn_m1, l2, l3, l4, l5, l6, l7, l8, l9, l10, l11, l12, l13, l14, l15, l20, l30, l40, l48, l60, l64, l99, l100, l700, l999, not_true_eq_false, not_false_eq_true, x_t0, x_t1, lts1, x_10, x_1sub, eq_self, Nat.reduceSub, Nat.reduceAdd, Nat.reduceMul, ↓q1_of (mo_so0 hw hms h1), mo_sungBy hw hms, mo_bits, n2_0, n2_1]
      · intro f k s hkn hsx
        obtain ⟨h1, h2, h3⟩ := hsx
        have hms := h3.ma h.ma
        have ek : Wk A R (x, c) (k + 1) = wst A R (Wk A R (x, c) k) := rfl
        left
        by_cases hn0 : A 0 0 = 0
        · obtain ⟨s', d1, d2, d3, d4⟩ := m_dayW hw hr h.ma h.rm h3 h1
          have ew : wst A R (Wk A R (x, c) k) = ((Wk A R (x, c) k).1, dy A R (Wk A R (x, c) k).2) := by unfold wst; rw [if_pos hn0]
          refine ⟨s', ⟨by rw [ek, ew]; exact d2, by rw [ek, ew, d4]; exact h2, d3⟩, ?_⟩
          show F_Mo_wars_29B (F_Mo_wars_29 f) (nI n) (nI w) (nI k) s = _
          unfold F_Mo_wars_29B F_Mo_wars_60
          rw [if_neg (nI_ge hkn (by omega)), hms.1, hn0, if_pos (show nI 0 ≤ 0 by decide), d1, sn_q2, nI_1]
        · generalize hD : (Wk A R (x, c) k).1 * 1103515245 + 12345 = D at *
          have hjn : dj D % A 0 0 < A 0 0 := Nat.mod_lt _ (by omega)
          have hjl := dj_lt D
          have ew : wst A R (Wk A R (x, c) k) = (D, dy A R (tn (dj D % A 0 0) (Wk A R (x, c) k).2)) := by unfold wst; rw [if_neg hn0, hD]
          have edr : F_Mo_draw (nI (A 0 0)) s = some (nI (dj D % A 0 0), sd_up s 61 56 D) := by
            unfold F_Mo_draw
            rw [h2, hD, y_lt, sn_gu (nI_ne0 (by omega) (by omega)), up_s, dj_eq, sn_mod (by omega) (by omega) (by omega)]
          have fin : ∀ v : Int32, v = (if s 87 (dj D % A 0 0) = 0 then 1 else if s 87 (dj D % A 0 0) = 1 then 0 else nI 2) → ∃ s', (stR (A 0 0) (s' 87) (Wk A R (x, c) (k + 1)).2 ∧ s' 61 56 = (Wk A R (x, c) (k + 1)).1 ∧ wfr M1 s') ∧ F_Mo_wars_60 (F_Mo_wars_29 f) (nI n) (nI w) (nI k) (sd_up (sd_up s 61 56 D) 87 (dj D % A 0 0) v) = F_Mo_wars_29 f (nI n) (nI w) (nI (k + 1)) s' := by
            intro v hv
            have hst' : stR (A 0 0) ((sd_up (sd_up s 61 56 D) 87 (dj D % A 0 0) v) 87) (tn (dj D % A 0 0) (Wk A R (x, c) k).2) := stR_tn hn hjn h1 (fun q hq => by rw [up_m hq, up_n (by omega)]) (by rw [up_s]; exact hv)
            have hf' : wfr M1 (sd_up (sd_up s 61 56 D) 87 (dj D % A 0 0) v) := ⟨fun q a b e g => by rw [up_n a, up_n g, h3.1 q a b e g], fun j hj => by rw [up_n (by omega), up_m hj, h3.2 j hj]⟩
            obtain ⟨s', d1, d2, d3, d4⟩ := m_dayW hw hr h.ma h.rm hf' hst'
            refine ⟨s', ⟨by rw [ek, ew]; exact d2, by rw [ek, ew, d4, up_n (by omega)]; exact up_s, d3⟩, ?_⟩
            unfold F_Mo_wars_60
            rw [d1, sn_q2, nI_1]
          have hu : F_Mo_wars_29 (f + 1) (nI n) (nI w) (nI k) s = F_Mo_wars_29B (F_Mo_wars_29 f) (nI n) (nI w) (nI k) s := rfl
          have g87 : sd_up s 61 56 D 87 = s 87 := up_n (by omega)
          by_cases c0 : s 87 (dj D % A 0 0) = 0
          · obtain ⟨s', a1, a2⟩ := fin 1 (by rw [if_pos c0])
            refine ⟨s', a1, ?_⟩
            rw [← a2, hu]
            unfold F_Mo_wars_29B
            rw [if_neg (nI_ge hkn (by omega)), hms.1, if_neg (nI_nle (by omega) (by omega)), edr, sn_q2, nI_clamp (by omega), g87]
            simp (disch := omega) only [↓g_in, ↓g_c0, ↓g_c1, ↓reduceIte, ↓y_lt, ↓y_q1, ↓y_q2, ↓sn_q3, ↓sn_t1l, ↓sn_t1r, ↓sn_t2l, ↓sn_t2r, y_q1, y_q2, sn_q3, sn_t1l, sn_t1r, sn_t2l, sn_t2r, nI_clamp, x_leT, x_leF, x_ltT, x_ltF, x_eqT, x_eqF, x_le0T, x_le0F, x_0leT, x_lt0F, x_0ltT, x_0ltF, x_eq0T, x_eq0F, x_le1T, x_le1F, x_1leT, x_1leF, x_1ltT, x_1ltF, x_lt1T, x_lt1F, x_eq1T, x_eq1F, x_m1F, nI_add, nI_1, sn_mul, x_sub, x_sub1, sn_m1, l2, l3, l4, l5, l6, l7, l8, l9, l10, l11, l12, l13, l14, l15, l20, l30, l40, l48, l60, l64, l99, l100, l700, l999, not_true_eq_false, not_false_eq_true, x_t0, x_t1, lts1, x_10, x_1sub, eq_self, Nat.reduceSub, Nat.reduceAdd, Nat.reduceMul, c0]
          · by_cases c1 : s 87 (dj D % A 0 0) = 1
            · obtain ⟨s', a1, a2⟩ := fin 0 (by rw [if_neg c0, if_pos c1])
              refine ⟨s', a1, ?_⟩
              rw [← a2, hu]
              unfold F_Mo_wars_29B
              rw [if_neg (nI_ge hkn (by omega)), hms.1, if_neg (nI_nle (by omega) (by omega)), edr, sn_q2, nI_clamp (by omega), g87]
              simp (disch := omega) only [↓g_in, ↓g_c0, ↓g_c1, ↓reduceIte, ↓y_lt, ↓y_q1, ↓y_q2, ↓sn_q3, ↓sn_t1l, ↓sn_t1r, ↓sn_t2l, ↓sn_t2r, y_q1, y_q2, sn_q3, sn_t1l, sn_t1r, sn_t2l, sn_t2r, nI_clamp, x_leT, x_leF, x_ltT, x_ltF, x_eqT, x_eqF, x_le0T, x_le0F, x_0leT, x_lt0F, x_0ltT, x_0ltF, x_eq0T, x_eq0F, x_le1T, x_le1F, x_1leT, x_1leF, x_1ltT, x_1ltF, x_lt1T, x_lt1F, x_eq1T, x_eq1F, x_m1F, nI_add, nI_1, sn_mul, x_sub, x_sub1, sn_m1, l2, l3, l4, l5, l6, l7, l8, l9, l10, l11, l12, l13, l14, l15, l20, l30, l40, l48, l60, l64, l99, l100, l700, l999, not_true_eq_false, not_false_eq_true, x_t0, x_t1, lts1, x_10, x_1sub, eq_self, Nat.reduceSub, Nat.reduceAdd, Nat.reduceMul, c0, c1]
            · obtain ⟨s', a1, a2⟩ := fin (nI 2) (by rw [if_neg c0, if_neg c1])
              refine ⟨s', a1, ?_⟩
              rw [← a2, hu]
              unfold F_Mo_wars_29B
              rw [if_neg (nI_ge hkn (by omega)), hms.1, if_neg (nI_nle (by omega) (by omega)), edr, sn_q2, nI_clamp (by omega), g87]
              simp (disch := omega) only [↓g_in, ↓g_c0, ↓g_c1, ↓reduceIte, ↓y_lt, ↓y_q1, ↓y_q2, ↓sn_q3, ↓sn_t1l, ↓sn_t1r, ↓sn_t2l, ↓sn_t2r, y_q1, y_q2, sn_q3, sn_t1l, sn_t1r, sn_t2l, sn_t2r, nI_clamp, x_leT, x_leF, x_ltT, x_ltF, x_eqT, x_eqF, x_le0T, x_le0F, x_0leT, x_lt0F, x_0ltT, x_0ltF, x_eq0T, x_eq0F, x_le1T, x_le1F, x_1leT, x_1leF, x_1ltT, x_1ltF, x_lt1T, x_lt1F, x_eq1T, x_eq1F, x_m1F, nI_add, nI_1, sn_mul, x_sub, x_sub1, sn_m1, l2, l3, l4, l5, l6, l7, l8, l9, l10, l11, l12, l13, l14, l15, l20, l30, l40, l48, l60, l64, l99, l100, l700, l999, not_true_eq_false, not_false_eq_true, x_t0, x_t1, lts1, x_10, x_1sub, eq_self, Nat.reduceSub, Nat.reduceAdd, Nat.reduceMul, c0, c1]
end QU
