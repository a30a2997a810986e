/-! ===== games ===== -/
def gfe (A : sA) (R : Nat → List Nat) (c : Nat → Int32) (k : Nat) : Int32 := (if k / 2 = 0 then bo (tg A R 0 c) else 0) ||| (if k % 2 = 0 then bo (tg A R 1 c) else 0)
def gfr (A : sA) (R : Nat → List Nat) (c : Nat → Int32) (k : Nat) : Int32 := c 0 &&& (gfe A R c k ^^^ -1)
def gld (A : sA) (R : Nat → List Nat) (c : Nat → Int32) (k : Nat) : Int32 := nI (sk A (sd A 0 &&& gfr A R c k)) - nI (sk A (sd A 1 &&& gfr A R c k))
def gbo (A : sA) (R : Nat → List Nat) (c : Nat → Int32) (y : Int32) (k : Nat) : Int32 := if pc (sg A (gfr A R c k)) = pc (sg A (c 0)) then y else 0
def gG0 (A : sA) (R : Nat → List Nat) (c : Nat → Int32) (y : Int32) (k : Nat) : Int32 := gld A R c k + gbo A R c y k
def gG1 (A : sA) (R : Nat → List Nat) (c : Nat → Int32) (y : Int32) (k : Nat) : Int32 := gbo A R c y k - gld A R c k
def gfo (k : Nat) : Nat := (k + 2) % 4
def gso (k : Nat) : Nat := if k % 2 = 0 then k + 1 else k - 1
/-- a couple rests -/
def grs (A : sA) (R : Nat → List Nat) (c : Nat → Int32) (y : Int32) (k : Nat) : Bool := !decide (gG0 A R c y k < gG0 A R c y (gfo k)) && !decide (gG1 A R c y k < gG1 A R c y (gso k))
theorem g_add {a b c : Nat} : nI a - nI b + nI c = nI (a + c) - nI b := by
  rw [← nI_add, Int32.sub_eq_add_neg, Int32.sub_eq_add_neg, Int32.add_assoc, Int32.add_comm (-nI b), ← Int32.add_assoc]
theorem g_sub {a b c : Nat} : nI a - nI b + (0 - nI c) = nI a - nI (b + c) := by
  rw [← nI_add, Int32.zero_sub, Int32.sub_eq_add_neg, Int32.sub_eq_add_neg, Int32.neg_add, Int32.sub_eq_add_neg, Int32.add_assoc]
theorem w_bit {w : Int32} : F_War_bitOf w = some (bo w) := by
  unfold F_War_bitOf bo
  by_cases h : w = -1
  · rw [if_neg (sn_nn h), if_neg (sn_nn h)]
  · rw [if_pos h, if_pos h]
theorem n2_0 : ((2 : Nat) = 0) = False := eq_false (by decide)
theorem n2_1 : ((2 : Nat) = 1) = False := eq_false (by decide)
def tfr (t : Nat) (C I : sm_MI) : Prop := ∀ k, k ≠ t + 18 → k ≠ t + 19 → I k = C k
section QU
variable {A : sA} {R : Nat → List Nat} {t : Nat} {C M I : sm_MI}
theorem ctar (h : Rel A R t C M) (hf : tfr t C I) {σ : Nat} (hσ : σ < 2) : ∃ I', F_War_target t 9 (nI σ) I = some (tg A R σ (C 9), I') ∧ tfr t C I' := by
  have ht := h.tt
  obtain ⟨I', e1, e2⟩ := c_target (q := 9) h.wa h.rw (cA_fr h.ca hf) (rC_fr h.rc hf) hσ (by omega) (by omega)
  rw [hf 9 (by omega) (by omega)] at e1
  exact ⟨I', e1, fun k h1 h2 => by rw [e2 k h1 h2, hf k h1 h2]⟩
theorem c_left (h : Rel A R t C M) (hf : tfr t C I) {a b : Nat} (ha : a < 2) (hb : b < 2) : ∃ I', F_War_leftFree t (nI a) (nI b) I = some (gfr A R (C 9) (2 * a + b), I') ∧ tfr t C I' := by
  have ht := h.tt
  have key : ∀ (s : Int32) (J : sm_MI), tfr t C J → s = (if (2 * a + b) / 2 = 0 then bo (tg A R 0 (C 9)) else 0) → ∃ I', F_War_leftFree_9 t (nI b) s J = some (gfr A R (C 9) (2 * a + b), I') ∧ tfr t C I' := by
    intro s J hJ hs
    unfold F_War_leftFree_9 F_War_leftFree_20
    by_cases hb0 : b = 0
    · subst hb0
      obtain ⟨I', e1, e2⟩ := ctar h hJ (σ := 1) (by omega)
      have e1 : F_War_target t 9 1 J = some (tg A R 1 (C 9), I') := e1
      refine ⟨I', ?_, e2⟩
      rw [if_neg (sn_nn (show nI 0 = (0 : Int32) from rfl)), e1, sn_q2, w_bit, sn_q1, y_lt, e2 9 (by omega) (by omega)]
      unfold gfr gfe
      rw [← hs, if_pos (show (2 * a + 0) % 2 = 0 by omega)]
    · have hb1 : b = 1 := by omega
      subst hb1
      refine ⟨J, ?_, hJ⟩
      rw [if_pos (show ¬ nI 1 = (0 : Int32) by decide), hJ 9 (by omega) (by omega)]
      unfold gfr gfe
      rw [← hs, if_neg (show ¬ (2 * a + 1) % 2 = 0 by omega), or0]
  unfold F_War_leftFree
  by_cases ha0 : a = 0
  · subst ha0
    obtain ⟨I', e1, e2⟩ := ctar h hf (σ := 0) (by omega)
    have e1 : F_War_target t 9 0 I = some (tg A R 0 (C 9), I') := e1
    rw [if_neg (sn_nn (show nI 0 = (0 : Int32) from rfl)), e1, sn_q2, w_bit, sn_q1]
    exact key _ I' e2 (by rw [if_pos (by omega)])
  · have ha1 : a = 1 := by omega
    subst ha1
    rw [if_pos (show ¬ nI 1 = (0 : Int32) by decide)]
    exact key _ I hf (by rw [if_neg (by omega)])
theorem c_lead (hw : wA A) (hc : cA A t I) {c : Nat → Int32} {k : Nat} : F_War_lead t (gfr A R c k) I = some (gld A R c k) := by
  have s0 : F_Valley_ofSide t 0 I = some (sd A 0) := c_ofSide' (k := 0) hc (by omega)
  have s1 : F_Valley_ofSide t 1 I = some (sd A 1) := c_ofSide' (k := 1) hc (by omega)
  have hsd : ∀ σ i, A 0 0 ≤ i → bt (sd A σ &&& gfr A R c k) i = false := fun σ i hi => by rw [b_and, bt_sd hw, decide_eq_false (by omega)]; rfl
  unfold F_War_lead
  rw [s0, sn_q1, c_skills hw hc (hsd 0), sn_q1, s1, sn_q1, c_skills hw hc (hsd 1), sn_q1]
  rfl
theorem c_bonus (hw : wA A) (hc : cA A t I) {c : Nat → Int32} {k : Nat} {y : Int32} : F_War_bonus t (gfr A R c k) (nI (pc (sg A (c 0)))) y I = some (gbo A R c y k) := by
  have p1 := pc_le (sg A (gfr A R c k))
  have p2 := pc_le (sg A (c 0))
  unfold F_War_bonus gbo
  rw [c_singable hw hc, sn_q1, int_bc lo14_sg, sn_q1]
  by_cases e : pc (sg A (gfr A R c k)) = pc (sg A (c 0))
  · rw [if_pos e, if_neg (sn_nn (by rw [e]))]
  · rw [if_neg e, if_pos (fun z => e ((nI_eq (by omega) (by omega)).mp z))]
theorem c_rests (h : Rel A R t C M) (hf : tfr t C I) {a b : Nat} (ha : a < 2) (hb : b < 2) {y : Int32} : ∃ I', F_War_coupleRests t (nI a) (nI b) y I = some (if grs A R (C 9) y (2 * a + b) then 1 else 0, I') ∧ tfr t C I' := by
  have ht := h.tt
  obtain ⟨I1, a1, a2⟩ := c_left h hf ha hb
  obtain ⟨I2, b1, b2⟩ := c_left h a2 (show 1 - a < 2 by omega) hb
  obtain ⟨I3, d1, d2⟩ := c_left h b2 ha (show 1 - b < 2 by omega)
  have hc := cA_fr h.ca d2
  have hw := h.wa
  have k1 : 2 * (1 - a) + b = gfo (2 * a + b) := by unfold gfo; omega
  have k2 : 2 * a + (1 - b) = gso (2 * a + b) := by unfold gso; split <;> omega
  rw [k1] at b1
  rw [k2] at d1
  refine ⟨I3, ?_, d2⟩
  unfold F_War_coupleRests grs gG0 gG1
  rw [show (1 : Int32) - nI a = nI (1 - a) from x_1sub (by omega), show (1 : Int32) - nI b = nI (1 - b) from x_1sub (by omega), a1, sn_q2, b1, sn_q2, d1, sn_q2, d2 9 (by omega) (by omega), c_singable hw hc, sn_q1, int_bc lo14_sg, sn_q1, c_lead hw hc, sn_q1, c_bonus hw hc, sn_q1, c_lead hw hc, sn_q1, c_bonus hw hc, sn_q1, c_bonus hw hc, sn_q1, c_lead hw hc, sn_q1]
  by_cases g1 : gld A R (C 9) (2 * a + b) + gbo A R (C 9) y (2 * a + b) < gld A R (C 9) (gfo (2 * a + b)) + gbo A R (C 9) y (gfo (2 * a + b))
  · rw [if_pos g1, decide_eq_true g1]; rfl
  · rw [if_neg g1, decide_eq_false g1]
    by_cases g2 : gbo A R (C 9) y (2 * a + b) - gld A R (C 9) (2 * a + b) < gbo A R (C 9) y (gso (2 * a + b)) - gld A R (C 9) (gso (2 * a + b))
    · rw [if_pos g2, decide_eq_true g2]; rfl
    · rw [if_neg g2, decide_eq_false g2]; rfl
/-- how all are when a couple has chosen -/
def gcc (A : sA) (R : Nat → List Nat) (c : Nat → Int32) (k : Nat) : Nat → Int32
  | 0 => gfr A R c k
  | 1 => c 1
  | 2 => c 2 ||| gfe A R c k
  | 3 => c 3
  | _ => c 4
def lfr (M I : sm_MI) : Prop := ∀ k, k ≠ 87 → k ≠ 89 → k ≠ 90 → k ≠ 92 → I k = M k
theorem lfr.ma (hm : mA A M) (h : lfr M I) : mA A I := mA_of hm (by rw [h 61 (by omega) (by omega) (by omega) (by omega)]) (by rw [h 61 (by omega) (by omega) (by omega) (by omega)]) (by rw [h 61 (by omega) (by omega) (by omega) (by omega)]) (fun k h1 h2 => h k (by omega) (by omega) (by omega) (by omega))
theorem lfr.rm (hM : rM R M) (h : lfr M I) : rM R I := by
  unfold rM
  rw [h _ (by omega) (by omega) (by omega) (by omega), h _ (by omega) (by omega) (by omega) (by omega)]
  exact hM
theorem lfr.smM {M0 : sm_MI} (hs : smM M0 M) (h : lfr M I) : smM M0 I := by
  refine ⟨fun i h1 h2 => ?_, fun i h1 h2 h3 h4 h5 => ?_, fun i h1 => ?_⟩
  · rw [← hs.1 i h1 h2, h 61 (by omega) (by omega) (by omega) (by omega)]
  · rw [← hs.2.1 i h1 h2 h3 h4 h5, h i (by omega) (by omega) (by omega) (by omega)]
  · rw [← hs.2.2 i h1, h i (by omega) (by omega) (by omega) (by omega)]
/-- the model's gains of a couple -/
theorem m_lay (h : Rel A R t C M) {k : Nat} {y : Nat} (hk : k < 4) (hf : lfr M I) (k11 : Int32 → Int32 → Int32 → sm_MI → Option sm_MI) (hst : stR (A 0 0) (I 87) (gcc A R (C 9) k)) :
    F_Mo_lays4_64 k11 sd_fu (nI y) (nI (pc (sg A (C 9 0)))) (nI k) 0 0 I = k11 (nI y) (nI (pc (sg A (C 9 0)))) (nI (k + 1)) (sd_up (sd_up I 92 (2 * k) (gG0 A R (C 9) (nI y) k)) 92 (2 * k + 1) (gG1 A R (C 9) (nI y) k)) := by
  have hw := h.wa
  have hn := hw.1
  have hm := hf.ma h.ma
  have x0 : gcc A R (C 9) k 0 = gfr A R (C 9) k := rfl
  have lp := lp_in (fun f j v => F_Mo_lays4_64 k11 f (nI y) (nI (pc (sg A (C 9 0)))) (nI k) v j I) (fun v => k11 (nI y) (nI (pc (sg A (C 9 0)))) (nI (k + 1)) (sd_up (sd_up I 92 (2 * k) (gG0 A R (C 9) (nI y) k)) 92 (2 * k + 1) (gG1 A R (C 9) (nI y) k))) (fun s v => if bt (gfr A R (C 9) k) s then (if A 1 s = 0 then v + nI (A 5 s) else if A 1 s = 1 then v + (0 - nI (A 5 s)) else v) else v) (fun s v => v = nI (wc (A 5) (bt (sd A 0 &&& gfr A R (C 9) k)) s) - nI (wc (A 5) (bt (sd A 1 &&& gfr A R (C 9) k)) s)) (A 0 0) 0 (show (0 : Int32) = nI 0 - nI 0 by decide) (by omega) ?_ ?_
  · exact lp.1
  · intro f v hv
    have hv2 : v = gld A R (C 9) k := by
      rw [hv]
      unfold gld sk
      rw [wc_to (n := A 0 0) (N := 14) hn (fun i h1 h2 => by rw [b_and, bt_sd hw, decide_eq_false (by omega)]; rfl), wc_to (n := A 0 0) (N := 14) hn (fun i h1 h2 => by rw [b_and, bt_sd hw, decide_eq_false (by omega)]; rfl)]
    have p1 := pc_le (sg A (gfr A R (C 9) k))
    have p2 := pc_le (sg A (C 9 0))
    show F_Mo_lays4_64B k11 (F_Mo_lays4_64 k11 f) (nI y) (nI (pc (sg A (C 9 0)))) (nI k) v (nI (A 0 0)) I = _
    unfold F_Mo_lays4_64B F_Mo_lays4_115 gG0 gG1 gbo
    rw [hv2]
    by_cases e : pc (sg A (gfr A R (C 9) k)) = pc (sg A (C 9 0))
    · simp (disch := omega) only [↓g_in, ↓g_c0, ↓g_c1, ↓reduceIte, ↓y_lt, ↓y_q1, ↓y_q2, ↓sn_q3, ↓sn_t1l, ↓sn_t1r, ↓sn_t2l, ↓sn_t2r, y_q1, y_q2, sn_q3, sn_t1l, sn_t1r, sn_t2l, sn_t2r, nI_clamp, x_leT, x_leF, x_ltT, x_ltF, x_eqT, x_eqF, x_le0T, x_le0F, x_0leT, x_lt0F, x_0ltT, x_0ltF, x_eq0T, x_eq0F, x_le1T, x_le1F, x_1leT, x_1leF, x_1ltT, x_1ltF, x_lt1T, x_lt1F, x_eq1T, x_eq1F, x_m1F, nI_add, nI_1, sn_mul, x_sub, x_sub1, sn_m1, l2, l3, l4, l5, l6, l7, l8, l9, l10, l11, l12, l13, l14, l15, l20, l30, l40, l48, l60, l64, l99, l100, l700, l999, not_true_eq_false, not_false_eq_true, x_t0, x_t1, lts1, x_10, x_1sub, eq_self, Nat.reduceSub, Nat.reduceAdd, Nat.reduceMul, hm.1, ↓q1_of (mo_so0 hw hm hst), x0, mo_sungBy hw hm, mo_bits, e]
    · simp (disch := omega) only [↓g_in, ↓g_c0, ↓g_c1, ↓reduceIte, ↓y_lt, ↓y_q1, ↓y_q2, ↓sn_q3, ↓sn_t1l, ↓sn_t1r, ↓sn_t2l, ↓sn_t2r, y_q1, y_q2, sn_q3, sn_t1l, sn_t1r, sn_t2l, sn_t2r, nI_clamp, x_leT, x_leF, x_ltT, x_ltF, x_eqT, x_eqF, x_le0T, x_le0F, x_0leT, x_lt0F, x_0ltT, x_0ltF, x_eq0T, x_eq0F, x_le1T, x_le1F, x_1leT, x_1leF, x_1ltT, x_1ltF, x_lt1T, x_lt1F, x_eq1T, x_eq1F, x_m1F, nI_add, nI_1, sn_mul, x_sub, x_sub1, sn_m1, l2, l3, l4, l5, l6, l7, l8, l9, l10, l11, l12, l13, l14, l15, l20, l30, l40, l48, l60, l64, l99, l100, l700, l999, not_true_eq_false, not_false_eq_true, x_t0, x_t1, lts1, x_10, x_1sub, eq_self, Nat.reduceSub, Nat.reduceAdd, Nat.reduceMul, hm.1, ↓q1_of (mo_so0 hw hm hst), x0, mo_sungBy hw hm, mo_bits, e]
  · intro f s v hs hv
    obtain ⟨d1, -, -, -, d5⟩ := hm.2.2.2.1 s hs
    obtain ⟨g1, -⟩ := hw.2.2.2.2.1 s hs
    have hb := (stR_b hst hs).1
    rw [x0] at hb
    refine ⟨?_, ?_⟩
    · have w0 : wc (A 5) (bt (sd A 0 &&& gfr A R (C 9) k)) (s + 1) = wc (A 5) (bt (sd A 0 &&& gfr A R (C 9) k)) s + (if (decide (A 1 s = 0) && bt (gfr A R (C 9) k) s) then A 5 s else 0) := by
        rw [wc, b_and, bt_sd hw, decide_eq_true hs, Bool.true_and]
      have w1 : wc (A 5) (bt (sd A 1 &&& gfr A R (C 9) k)) (s + 1) = wc (A 5) (bt (sd A 1 &&& gfr A R (C 9) k)) s + (if (decide (A 1 s = 1) && bt (gfr A R (C 9) k) s) then A 5 s else 0) := by
        rw [wc, b_and, bt_sd hw, decide_eq_true hs, Bool.true_and]
      rw [w0, w1]
      cases bt (gfr A R (C 9) k) s
      · rw [Bool.and_false, Bool.and_false]
        exact hv
      · rw [Bool.and_true, Bool.and_true, if_pos rfl]
        by_cases e0 : A 1 s = 0
        · rw [if_pos e0, decide_eq_true e0, decide_eq_false (by omega), hv, g_add]; rfl
        · rw [if_neg e0, decide_eq_false e0]
          by_cases e1 : A 1 s = 1
          · rw [if_pos e1, decide_eq_true e1, hv, g_sub]; rfl
          · rw [if_neg e1, decide_eq_false e1, hv]; rfl
    · show F_Mo_lays4_64B k11 (F_Mo_lays4_64 k11 f) (nI y) (nI (pc (sg A (C 9 0)))) (nI k) v (nI s) I = F_Mo_lays4_64 k11 f (nI y) (nI (pc (sg A (C 9 0)))) (nI k) _ (nI (s + 1)) I
      unfold F_Mo_lays4_64B
      rw [← hb]
      by_cases e : I 87 s = 0
      · by_cases e0 : A 1 s = 0
        · simp (disch := omega) only [↓g_in, ↓g_c0, ↓g_c1, ↓reduceIte, ↓y_lt, ↓y_q1, ↓y_q2, ↓sn_q3, ↓sn_t1l, ↓sn_t1r, ↓sn_t2l, ↓sn_t2r, y_q1, y_q2, sn_q3, sn_t1l, sn_t1r, sn_t2l, sn_t2r, nI_clamp, x_leT, x_leF, x_ltT, x_ltF, x_eqT, x_eqF, x_le0T, x_le0F, x_0leT, x_lt0F, x_0ltT, x_0ltF, x_eq0T, x_eq0F, x_le1T, x_le1F, x_1leT, x_1leF, x_1ltT, x_1ltF, x_lt1T, x_lt1F, x_eq1T, x_eq1F, x_m1F, nI_add, nI_1, sn_mul, x_sub, x_sub1, sn_m1, l2, l3, l4, l5, l6, l7, l8, l9, l10, l11, l12, l13, l14, l15, l20, l30, l40, l48, l60, l64, l99, l100, l700, l999, not_true_eq_false, not_false_eq_true, x_t0, x_t1, lts1, x_10, x_1sub, eq_self, Nat.reduceSub, Nat.reduceAdd, Nat.reduceMul, hm.1, e, d1, e0, d5, decide_true]
        · by_cases e1 : A 1 s = 1
          · simp (disch := omega) only [↓g_in, ↓g_c0, ↓g_c1, ↓reduceIte, ↓y_lt, ↓y_q1, ↓y_q2, ↓sn_q3, ↓sn_t1l, ↓sn_t1r, ↓sn_t2l, ↓sn_t2r, y_q1, y_q2, sn_q3, sn_t1l, sn_t1r, sn_t2l, sn_t2r, nI_clamp, x_leT, x_leF, x_ltT, x_ltF, x_eqT, x_eqF, x_le0T, x_le0F, x_0leT, x_lt0F, x_0ltT, x_0ltF, x_eq0T, x_eq0F, x_le1T, x_le1F, x_1leT, x_1leF, x_1ltT, x_1ltF, x_lt1T, x_lt1F, x_eq1T, x_eq1F, x_m1F, nI_add, nI_1, sn_mul, x_sub, x_sub1, sn_m1, l2, l3, l4, l5, l6, l7, l8, l9, l10, l11, l12, l13, l14, l15, l20, l30, l40, l48, l60, l64, l99, l100, l700, l999, not_true_eq_false, not_false_eq_true, x_t0, x_t1, lts1, x_10, x_1sub, eq_self, Nat.reduceSub, Nat.reduceAdd, Nat.reduceMul, hm.1, e, d1, e1, d5, decide_true, Nat.one_ne_zero]
          · have e2 : A 1 s = 2 := by omega
            simp (disch := omega) only [↓g_in, ↓g_c0, ↓g_c1, ↓reduceIte, ↓y_lt, ↓y_q1, ↓y_q2, ↓sn_q3, ↓sn_t1l, ↓sn_t1r, ↓sn_t2l, ↓sn_t2r, y_q1, y_q2, sn_q3, sn_t1l, sn_t1r, sn_t2l, sn_t2r, nI_clamp, x_leT, x_leF, x_ltT, x_ltF, x_eqT, x_eqF, x_le0T, x_le0F, x_0leT, x_lt0F, x_0ltT, x_0ltF, x_eq0T, x_eq0F, x_le1T, x_le1F, x_1leT, x_1leF, x_1ltT, x_1ltF, x_lt1T, x_lt1F, x_eq1T, x_eq1F, x_m1F, nI_add, nI_1, sn_mul, x_sub, x_sub1, sn_m1, l2, l3, l4, l5, l6, l7, l8, l9, l10, l11, l12, l13, l14, l15, l20, l30, l40, l48, l60, l64, l99, l100, l700, l999, not_true_eq_false, not_false_eq_true, x_t0, x_t1, lts1, x_10, x_1sub, eq_self, Nat.reduceSub, Nat.reduceAdd, Nat.reduceMul, hm.1, e, d1, e2, d5, decide_true, Int32.add_zero, n2_0, n2_1]
      · simp (disch := omega) only [↓g_in, ↓g_c0, ↓g_c1, ↓reduceIte, ↓y_lt, ↓y_q1, ↓y_q2, ↓sn_q3, ↓sn_t1l, ↓sn_t1r, ↓sn_t2l, ↓sn_t2r, y_q1, y_q2, sn_q3, sn_t1l, sn_t1r, sn_t2l, sn_t2r, nI_clamp, x_leT, x_leF, x_ltT, x_ltF, x_eqT, x_eqF, x_le0T, x_le0F, x_0leT, x_lt0F, x_0ltT, x_0ltF, x_eq0T, x_eq0F, x_le1T, x_le1F, x_1leT, x_1leF, x_1ltT, x_1ltF, x_lt1T, x_lt1F, x_eq1T, x_eq1F, x_m1F, nI_add, nI_1, sn_mul, x_sub, x_sub1, sn_m1, l2, l3, l4, l5, l6, l7, l8, l9, l10, l11, l12, l13, l14, l15, l20, l30, l40, l48, l60, l64, l99, l100, l700, l999, not_true_eq_false, not_false_eq_true, x_t0, x_t1, lts1, x_10, x_1sub, eq_self, Nat.reduceSub, Nat.reduceAdd, Nat.reduceMul, hm.1, e, decide_false, Bool.false_eq_true, Int32.add_zero]
theorem gfe_b (hw : wA A) {c : Nat → Int32} {k s : Nat} (h : bt (gfe A R c k) s = true) : bt (c 0) s = true := by
  have hn := hw.1
  have key : ∀ σ, bt (bo (tg A R σ c)) s = true → bt (c 0) s = true := fun σ hb => by
    rcases tg_or (A := A) (R := R) (σ := σ) (c := c) hw with h1 | ⟨j, h1, h2, h3, h4⟩
    · rw [h1, bo_m, b_0] at hb; cases hb
    · rw [h2, bo_n (by omega)] at hb
      by_cases h32 : s < 32
      · rw [bt_b1 (by omega) h32, decide_eq_true_eq] at hb
        rw [← hb]; exact h3
      · rw [b_big (by omega)] at hb; cases hb
  unfold gfe at h
  rw [b_or, Bool.or_eq_true] at h
  rcases h with h | h
  · split at h
    · exact key 0 h
    · rw [b_0] at h; cases h
  · split at h
    · exact key 1 h
    · rw [b_0] at h; cases h
/-- who is felled, in the model's row -/
theorem m_fell2 {n : Nat} {w0 w1 : Int32} {J : sm_MI} {k11 : Int32 → Int32 → Int32 → sm_MI → Option sm_MI} {x1 x2 x3 : Int32} (hn : n ≤ 14) (h0 : w0 = -1 ∨ ∃ a, a < n ∧ w0 = nI a) (h1 : w1 = -1 ∨ ∃ a, a < n ∧ w1 = nI a) :
    ∃ J', F_Mo_lays4_43 k11 x1 x2 x3 w0 w1 J = F_Mo_lays4_64 k11 sd_fu x1 x2 x3 0 0 J' ∧ (∀ s, s < n → J' 87 s = if bt (bo w0 ||| bo w1) s then nI 2 else J 87 s) ∧ J' 87 14 = J 87 14 ∧ J' 87 15 = J 87 15 ∧ ∀ k, k ≠ 87 → J' k = J k := by
  unfold F_Mo_lays4_43 F_Mo_lays4_52
  rcases h0 with rfl | ⟨a, ha, rfl⟩ <;> rcases h1 with rfl | ⟨b, hb, rfl⟩
  · refine ⟨J, by rw [if_pos rfl, if_pos rfl], fun s _ => ?_, rfl, rfl, fun _ _ => rfl⟩
    rw [bo_m, or0, b_0]; rfl
  · refine ⟨sd_up J 87 b (nI 2), ?_, fun s hs => ?_, up_m (by omega), up_m (by omega), fun k hk => up_n hk⟩
    · rw [if_pos rfl, if_neg (sn_ne1 (by omega)), sn_gu (sn_in' (by omega) (by omega)), y_lt, nI_clamp (by omega)]
      rfl
    · rw [bo_m, or0', bo_n (by omega), bt_b1 (by omega) (by omega)]
      by_cases e : b = s
      · subst e; rw [up_s, decide_eq_true rfl]; rfl
      · rw [up_m (fun z => e z.symm), decide_eq_false e]; rfl
  · refine ⟨sd_up J 87 a (nI 2), ?_, fun s hs => ?_, up_m (by omega), up_m (by omega), fun k hk => up_n hk⟩
    · rw [if_neg (sn_ne1 (by omega)), sn_gu (sn_in' (by omega) (by omega)), y_lt, if_pos rfl, nI_clamp (by omega)]
      rfl
    · rw [bo_m, or0, bo_n (by omega), bt_b1 (by omega) (by omega)]
      by_cases e : a = s
      · subst e; rw [up_s, decide_eq_true rfl]; rfl
      · rw [up_m (fun z => e z.symm), decide_eq_false e]; rfl
  · refine ⟨sd_up (sd_up J 87 a (nI 2)) 87 b (nI 2), ?_, fun s hs => ?_, by rw [up_m (by omega), up_m (by omega)], by rw [up_m (by omega), up_m (by omega)], fun k hk => by rw [up_n hk, up_n hk]⟩
    · rw [if_neg (sn_ne1 (by omega)), sn_gu (sn_in' (by omega) (by omega)), y_lt, if_neg (sn_ne1 (by omega)), sn_gu (sn_in' (by omega) (by omega)), y_lt, nI_clamp (by omega), nI_clamp (by omega)]
      rfl
    · rw [bo_n (by omega), bo_n (by omega), b_or, bt_b1 (by omega) (by omega), bt_b1 (by omega) (by omega)]
      by_cases e2 : b = s
      · subst e2; rw [up_s, decide_eq_true rfl, Bool.or_true]; rfl
      · by_cases e : a = s
        · subst e; rw [up_m (fun z => e2 z.symm), up_s, decide_eq_true rfl]; rfl
        · rw [up_m (fun z => e2 z.symm), up_m (fun z => e z.symm), decide_eq_false e, decide_eq_false e2]; rfl
def gw (A : sA) (R : Nat → List Nat) (σ : Nat) (c : Nat → Int32) (b : Bool) : Int32 := if b then tg A R σ c else -1
theorem gw_or (hw : wA A) {c : Nat → Int32} {σ : Nat} {b : Bool} : gw A R σ c b = -1 ∨ ∃ a, a < A 0 0 ∧ gw A R σ c b = nI a := by
  unfold gw
  split
  · exact (tg_or hw).imp id (fun ⟨a, h1, h2, _⟩ => ⟨a, h1, h2⟩)
  · exact Or.inl rfl
theorem gfe_w {c : Nat → Int32} {k : Nat} : gfe A R c k = bo (gw A R 0 c (decide (k / 2 = 0))) ||| bo (gw A R 1 c (decide (k % 2 = 0))) := by
  unfold gfe gw
  by_cases h1 : k / 2 = 0 <;> by_cases h2 : k % 2 = 0 <;> simp only [h1, h2, decide_true, decide_false, ↓reduceIte, Bool.false_eq_true, bo_m]
theorem m_lays4 (h : Rel A R t C M) {y : Nat} : ∃ I', F_Mo_lays4 (nI y) M = some I' ∧ (∀ k, k < 4 → I' 92 (2 * k) = gG0 A R (C 9) (nI y) k ∧ I' 92 (2 * k + 1) = gG1 A R (C 9) (nI y) k) ∧ lfr M I' := by
  have hw := h.wa
  have hn := hw.1
  have hst := h.st
  unfold F_Mo_lays4
  rw [mo_so0 hw h.ma hst, sn_q1, mo_sungBy hw h.ma, sn_q1, mo_bits, sn_q1]
  have lp := lp_R (fun f j s => F_Mo_lays4_11 f (nI y) (nI (pc (sg A (C 9 0)))) j s) (fun k s => (∀ q, q < k → s 92 (2 * q) = gG0 A R (C 9) (nI y) q ∧ s 92 (2 * q + 1) = gG1 A R (C 9) (nI y) q) ∧ lfr M s) (fun b => (∀ q, q < 4 → b 92 (2 * q) = gG0 A R (C 9) (nI y) q ∧ b 92 (2 * q + 1) = gG1 A R (C 9) (nI y) q) ∧ lfr M b) 4 M ⟨fun q hq => absurd hq (by omega), fun _ _ _ _ _ => rfl⟩ (by omega) ?_ ?_
  · exact lp
  · intro f s hs
    refine ⟨s, ?_, hs⟩
    show F_Mo_lays4_11B (F_Mo_lays4_11 f) (nI y) (nI (pc (sg A (C 9 0)))) (nI 4) s = _
    unfold F_Mo_lays4_11B
    rw [if_pos (show (4 : Int32) ≤ nI 4 from Int32.le_refl _)]
  · intro f k s hk hs
    left
    obtain ⟨hs1, hs2⟩ := hs
    obtain ⟨J1, j1, j2, j3⟩ := m_copies (p := 86) (q := 87) (I := s) sdn86 sdn87 (by omega) (by omega)
    have l1 : lfr M J1 := fun q h1 h2 h3 h4 => by rw [j3 q h1, hs2 q h1 h2 h3 h4]
    have r87 : ∀ q, q < 16 → J1 87 q = M 86 q := fun q hq => by rw [j2 q hq, hs2 86 (by omega) (by omega) (by omega) (by omega)]
    have aim : ∀ (σ : Nat) (J : sm_MI), σ < 2 → lfr M J → ∃ J', F_Mo_aims 86 (nI σ) J = some (tg A R σ (C 9), J') ∧ (∀ q, q ≠ 89 → q ≠ 90 → J' q = J q) := fun σ J hσ hJ =>
      m_aims (p := 86) hw h.rw (hJ.ma h.ma) (hJ.rm h.rm) (by rw [hJ 86 (by omega) (by omega) (by omega) (by omega)]; exact hst) hσ (by omega) (by omega)
    -- the south's choice, and what follows
    have go2 : ∀ (J : sm_MI), lfr M J → (∀ q, q < 16 → J 87 q = M 86 q) → J 92 = s 92 → ∃ J', lfr M J' ∧ J' 92 = s 92 ∧ stR (A 0 0) (J' 87) (gcc A R (C 9) k) ∧ F_Mo_lays4_31 (F_Mo_lays4_11 f) (nI y) (nI (pc (sg A (C 9 0)))) (nI k) (gw A R 0 (C 9) (decide (k / 2 = 0))) J = F_Mo_lays4_64 (F_Mo_lays4_11 f) sd_fu (nI y) (nI (pc (sg A (C 9 0)))) (nI k) 0 0 J' := by
      intro J hJ hJ87 hJ92
      have go3 : ∀ (J : sm_MI), lfr M J → (∀ q, q < 16 → J 87 q = M 86 q) → J 92 = s 92 → ∃ J', lfr M J' ∧ J' 92 = s 92 ∧ stR (A 0 0) (J' 87) (gcc A R (C 9) k) ∧ F_Mo_lays4_43 (F_Mo_lays4_11 f) (nI y) (nI (pc (sg A (C 9 0)))) (nI k) (gw A R 0 (C 9) (decide (k / 2 = 0))) (gw A R 1 (C 9) (decide (k % 2 = 0))) J = F_Mo_lays4_64 (F_Mo_lays4_11 f) sd_fu (nI y) (nI (pc (sg A (C 9 0)))) (nI k) 0 0 J' := by
        intro J hJ hJ87 hJ92
        obtain ⟨J', q1, q2, q3, q4, q5⟩ := m_fell2 (J := J) (k11 := F_Mo_lays4_11 f) (x1 := nI y) (x2 := nI (pc (sg A (C 9 0)))) (x3 := nI k) hn (gw_or (A := A) (R := R) (c := C 9) (σ := 0) (b := decide (k / 2 = 0)) hw) (gw_or (A := A) (R := R) (c := C 9) (σ := 1) (b := decide (k % 2 = 0)) hw)
        refine ⟨J', fun q h1 h2 h3 h4 => by rw [q5 q h1, hJ q h1 h2 h3 h4], by rw [q5 92 (by omega)]; exact hJ92, ?_, q1⟩
        rw [← gfe_w] at q2
        exact stR_fl (f := gfe A R (C 9) k) hn hst (fun z hz => by rw [q2 z hz, hJ87 z (by omega)]) (fun z hz => gfe_b hw hz) rfl rfl rfl (by rw [q3, hJ87 14 (by omega)]; exact hst.2.2.1) (by rw [q4, hJ87 15 (by omega)]; exact hst.2.2.2)
      unfold F_Mo_lays4_31
      have g2 : ∀ {α : Type} {o : Option α}, sd_gu (¬ (2 : Int32) = 0) o = o := fun {α o} => sn_gu (by decide)
      rw [g2, show sd_mod (nI k) 2 = nI (k % 2) from m_md2 (by omega)]
      by_cases e : k % 2 = 0
      · obtain ⟨J2, a1, a2⟩ := aim 1 J (by omega) hJ
        have a1 : F_Mo_aims 86 1 J = some (tg A R 1 (C 9), J2) := a1
        rw [e, if_neg (sn_nn (show nI 0 = (0 : Int32) from rfl)), a1, sn_q2]
        have e2 : gw A R 1 (C 9) (decide (k % 2 = 0)) = tg A R 1 (C 9) := by unfold gw; rw [decide_eq_true e]; rfl
        have := go3 J2 (fun q h1 h2 h3 h4 => by rw [a2 q h2 h3, hJ q h1 h2 h3 h4]) (fun q hq => by rw [a2 87 (by omega) (by omega)]; exact hJ87 q hq) (by rw [a2 92 (by omega) (by omega)]; exact hJ92)
        rw [e2] at this
        exact this
      · rw [if_pos (nI_ne0 (by omega) (by omega))]
        have e2 : gw A R 1 (C 9) (decide (k % 2 = 0)) = -1 := by unfold gw; rw [decide_eq_false e]; rfl
        have := go3 J hJ hJ87 hJ92
        rw [e2] at this
        exact this
    have fin : ∀ J', lfr M J' → J' 92 = s 92 → (∀ q, q < k + 1 → (sd_up (sd_up J' 92 (2 * k) (gG0 A R (C 9) (nI y) k)) 92 (2 * k + 1) (gG1 A R (C 9) (nI y) k)) 92 (2 * q) = gG0 A R (C 9) (nI y) q ∧ (sd_up (sd_up J' 92 (2 * k) (gG0 A R (C 9) (nI y) k)) 92 (2 * k + 1) (gG1 A R (C 9) (nI y) k)) 92 (2 * q + 1) = gG1 A R (C 9) (nI y) q) ∧ lfr M (sd_up (sd_up J' 92 (2 * k) (gG0 A R (C 9) (nI y) k)) 92 (2 * k + 1) (gG1 A R (C 9) (nI y) k)) := by
      intro J' hJ' h92
      refine ⟨fun q hq => ?_, fun q h1 h2 h3 h4 => by rw [up_n h4, up_n h4, hJ' q h1 h2 h3 h4]⟩
      by_cases e : q = k
      · subst e
        exact ⟨by rw [up_m (by omega), up_s], up_s⟩
      · have := hs1 q (by omega)
        exact ⟨by rw [up_m (by omega), up_m (by omega), h92]; exact this.1, by rw [up_m (by omega), up_m (by omega), h92]; exact this.2⟩
    have g2 : ∀ {α : Type} {o : Option α}, sd_gu (¬ (2 : Int32) = 0) o = o := fun {α o} => sn_gu (by decide)
    have hu : F_Mo_lays4_11 (f + 1) (nI y) (nI (pc (sg A (C 9 0)))) (nI k) s = F_Mo_lays4_11B (F_Mo_lays4_11 f) (nI y) (nI (pc (sg A (C 9 0)))) (nI k) s := rfl
    by_cases e : k / 2 = 0
    · obtain ⟨J2, a1, a2⟩ := aim 0 J1 (by omega) l1
      have a1 : F_Mo_aims 86 0 J1 = some (tg A R 0 (C 9), J2) := a1
      have e2 : gw A R 0 (C 9) (decide (k / 2 = 0)) = tg A R 0 (C 9) := by unfold gw; rw [decide_eq_true e]; rfl
      obtain ⟨J', p1, p2, p3, p4⟩ := go2 J2 (fun q h1 h2 h3 h4 => by rw [a2 q h2 h3, l1 q h1 h2 h3 h4]) (fun q hq => by rw [a2 87 (by omega) (by omega)]; exact r87 q hq) (by rw [a2 92 (by omega) (by omega), j3 92 (by omega)])
      refine ⟨_, fin J' p1 p2, ?_⟩
      rw [← m_lay h hk p1 (F_Mo_lays4_11 f) p3, ← p4, e2, hu]
      unfold F_Mo_lays4_11B
      rw [if_neg (show ¬ (4 : Int32) ≤ nI k from nI_ge (b := 4) hk (by omega)), j1, sn_q1, g2, show nI k / 2 = nI (k / 2) from m_dv2 (by omega), e, if_neg (sn_nn (show nI 0 = (0 : Int32) from rfl)), a1, sn_q2]
    · have e2 : gw A R 0 (C 9) (decide (k / 2 = 0)) = -1 := by unfold gw; rw [decide_eq_false e]; rfl
      obtain ⟨J', p1, p2, p3, p4⟩ := go2 J1 l1 r87 (by rw [j3 92 (by omega)])
      refine ⟨_, fin J' p1 p2, ?_⟩
      rw [← m_lay h hk p1 (F_Mo_lays4_11 f) p3, ← p4, e2, hu]
      unfold F_Mo_lays4_11B
      rw [if_neg (show ¬ (4 : Int32) ≤ nI k from nI_ge (b := 4) hk (by omega)), j1, sn_q1, g2, show nI k / 2 = nI (k / 2) from m_dv2 (by omega), if_pos (nI_ne0 (by omega) (by omega))]
def gmf (A : sA) (R : Nat → List Nat) (c : Nat → Int32) (y : Int32) (k : Nat) : Option Nat := if grs A R c y k then some (10 * (k / 2) + k % 2) else none
theorem k_shr : ∀ k, k < 4 → nI k >>> (1 &&& 31 : Int32) = nI (k / 2) ∧ nI k &&& 1 = nI (k % 2) := by decide +kernel
theorem k_fo : ∀ k, k < 4 → gfo k < 4 ∧ gso k < 4 ∧ sd_mod (nI k + 2) 4 = nI (gfo k) ∧ (k % 2 = 0 → nI k + 1 = nI (gso k)) ∧ (¬ k % 2 = 0 → nI k - 1 = nI (gso k)) := by decide +kernel
theorem q_game (h : Rel A R t C M) (x z : Int32) : ∃ r C', F_VM_game t x z C = some (r, C') ∧ csm t C C' ∧ mq (F_Mo_game x z M) M (cv r) := by
  obtain ⟨M1, hM1, h0, h, hs⟩ := h.start
  have hw := h.wa
  have ht := h.tt
  unfold F_VM_game F_Mo_game
  rw [hM1]
  rcases ix_or z (n := 2) (by omega) with hz | ⟨w, hk, rfl⟩
  · refine ⟨.inr 1, C, ?_, csm.refl, mq_t hs (v := 0) ?_⟩
    · rcases hz with h | h
      · rw [if_pos h]
      · rw [if_neg (ix_lt h (by omega)), if_neg (show ¬ z ≤ (1 : Int32) from ix_99 (n := 1) h (by omega))]
    · simp (disch := omega) only [↓g_in, ↓g_c0, ↓g_c1, ↓reduceIte, ↓y_lt, ↓y_q1, ↓y_q2, ↓sn_q3, ↓sn_t1l, ↓sn_t1r, ↓sn_t2l, ↓sn_t2r, y_q1, y_q2, sn_q3, sn_t1l, sn_t1r, sn_t2l, sn_t2r, nI_clamp, x_leT, x_leF, x_ltT, x_ltF, x_eqT, x_eqF, x_le0T, x_le0F, x_0leT, x_lt0F, x_0ltT, x_0ltF, x_eq0T, x_eq0F, x_le1T, x_le1F, x_1leT, x_1leF, x_1ltT, x_1ltF, x_lt1T, x_lt1F, x_eq1T, x_eq1F, x_m1F, nI_add, nI_1, sn_mul, x_sub, x_sub1, sn_m1, l2, l3, l4, l5, l6, l7, l8, l9, l10, l11, l12, l13, l14, l15, l20, l30, l40, l48, l60, l64, l99, l100, l700, l999, not_true_eq_false, not_false_eq_true, x_t0, x_t1, lts1, x_10, x_1sub, eq_self, Nat.reduceSub, Nat.reduceAdd, Nat.reduceMul, ↓q2_of (m_isW0 (y := 1) (n := 1) h0 hz (by omega) rfl)]
  · have hw2 := m_isW1 (M := M1) (s := w) (y := 1) (n := 1) h0 hk (by omega) rfl
    rcases ix_or x (n := 100) (by omega) with hx | ⟨y, hy, rfl⟩
    · refine ⟨.inr 0, C, ?_, csm.refl, mq_t hs (v := 0) ?_⟩
      · rcases hx with h | h
        · simp (disch := omega) only [↓g_in, ↓g_c0, ↓g_c1, ↓reduceIte, ↓y_lt, ↓y_q1, ↓y_q2, ↓sn_q3, ↓sn_t1l, ↓sn_t1r, ↓sn_t2l, ↓sn_t2r, y_q1, y_q2, sn_q3, sn_t1l, sn_t1r, sn_t2l, sn_t2r, nI_clamp, x_leT, x_leF, x_ltT, x_ltF, x_eqT, x_eqF, x_le0T, x_le0F, x_0leT, x_lt0F, x_0ltT, x_0ltF, x_eq0T, x_eq0F, x_le1T, x_le1F, x_1leT, x_1leF, x_1ltT, x_1ltF, x_lt1T, x_lt1F, x_eq1T, x_eq1F, x_m1F, nI_add, nI_1, sn_mul, x_sub, x_sub1, sn_m1, l2, l3, l4, l5, l6, l7, l8, l9, l10, l11, l12, l13, l14, l15, l20, l30, l40, l48, l60, l64, l99, l100, l700, l999, not_true_eq_false, not_false_eq_true, x_t0, x_t1, lts1, x_10, x_1sub, eq_self, Nat.reduceSub, Nat.reduceAdd, Nat.reduceMul, h]
        · have e1 := ix_lt h (by omega)
          have e2 : ¬ x ≤ nI 99 := ix_99 (n := 99) h (by omega)
          simp (disch := omega) only [↓g_in, ↓g_c0, ↓g_c1, ↓reduceIte, ↓y_lt, ↓y_q1, ↓y_q2, ↓sn_q3, ↓sn_t1l, ↓sn_t1r, ↓sn_t2l, ↓sn_t2r, y_q1, y_q2, sn_q3, sn_t1l, sn_t1r, sn_t2l, sn_t2r, nI_clamp, x_leT, x_leF, x_ltT, x_ltF, x_eqT, x_eqF, x_le0T, x_le0F, x_0leT, x_lt0F, x_0ltT, x_0ltF, x_eq0T, x_eq0F, x_le1T, x_le1F, x_1leT, x_1leF, x_1ltT, x_1ltF, x_lt1T, x_lt1F, x_eq1T, x_eq1F, x_m1F, nI_add, nI_1, sn_mul, x_sub, x_sub1, sn_m1, l2, l3, l4, l5, l6, l7, l8, l9, l10, l11, l12, l13, l14, l15, l20, l30, l40, l48, l60, l64, l99, l100, l700, l999, not_true_eq_false, not_false_eq_true, x_t0, x_t1, lts1, x_10, x_1sub, eq_self, Nat.reduceSub, Nat.reduceAdd, Nat.reduceMul, e1, e2]
      · simp (disch := omega) only [↓g_in, ↓g_c0, ↓g_c1, ↓reduceIte, ↓y_lt, ↓y_q1, ↓y_q2, ↓sn_q3, ↓sn_t1l, ↓sn_t1r, ↓sn_t2l, ↓sn_t2r, y_q1, y_q2, sn_q3, sn_t1l, sn_t1r, sn_t2l, sn_t2r, nI_clamp, x_leT, x_leF, x_ltT, x_ltF, x_eqT, x_eqF, x_le0T, x_le0F, x_0leT, x_lt0F, x_0ltT, x_0ltF, x_eq0T, x_eq0F, x_le1T, x_le1F, x_1leT, x_1leF, x_1ltT, x_1ltF, x_lt1T, x_lt1F, x_eq1T, x_eq1F, x_m1F, nI_add, nI_1, sn_mul, x_sub, x_sub1, sn_m1, l2, l3, l4, l5, l6, l7, l8, l9, l10, l11, l12, l13, l14, l15, l20, l30, l40, l48, l60, l64, l99, l100, l700, l999, not_true_eq_false, not_false_eq_true, x_t0, x_t1, lts1, x_10, x_1sub, eq_self, Nat.reduceSub, Nat.reduceAdd, Nat.reduceMul, ↓q2_of hw2, ↓q1_of (m_wi0 (y := 99) (n := 99) hx (by omega) rfl), ↓q2_of (m_rt0 (e := 2) h0 (by decide))]
    · obtain ⟨M2, m1, m2, m3⟩ := m_lays4 (y := y) h
      have ml := lp_in (fun f j (v : Nat × Option Nat) => F_Mo_game_27 f (nI w) (nI v.1) (fI v.2) j M2) (fun v => if w = 0 then some (nI v.1, M2) else some (fI v.2, M2)) (fun k v => (if grs A R (C 9) (nI y) k then v.1 + 1 else v.1, fxo v.2 (gmf A R (C 9) (nI y) k))) (fun k v => v.1 = cn (grs A R (C 9) (nI y)) k ∧ v.2 = fx (gmf A R (C 9) (nI y)) k 0) 4 (0, none) ⟨rfl, rfl⟩ (by omega) ?_ ?_
      · obtain ⟨ml, ev1, ev2⟩ := ml
        have ml : F_Mo_game_27 sd_fu (nI w) 0 (-1) 0 M2 = _ := ml
        rw [ev1, ev2] at ml
        have h61 : M2 61 0 = 0 := by rw [m3 61 (by omega) (by omega) (by omega) (by omega)]; exact h0
        by_cases hw0 : w = 0
        · subst hw0
          have cl := lp_R (fun f j (s : Nat × sm_MI) => F_VM_game_24 t f (nI y) (nI 0) (nI s.1) j s.2) (fun k s => s.1 = cn (grs A R (C 9) (nI y)) k ∧ tfr t C s.2) (fun b => b.1 = .inl (nI (cn (grs A R (C 9) (nI y)) 4)) ∧ tfr t C b.2) 4 (0, C) ⟨rfl, fun _ _ _ => rfl⟩ (by omega) ?_ ?_
          · obtain ⟨⟨v1, C'⟩, k1, k2, k3⟩ := cl
            have k2 : v1 = .inl (nI (cn (grs A R (C 9) (nI y)) 4)) := k2
            subst k2
            have k1 : F_VM_game_24 t sd_fu (nI y) (nI 0) 0 0 C = _ := k1
            refine ⟨.inl (nI (cn (grs A R (C 9) (nI y)) 4)), C', ?_, fun k _ _ h3 h4 => k3 k h3 h4, mq_v (M' := M2) ?_ h61 (m3.smM hs)⟩
            · simp (disch := omega) only [↓g_in, ↓g_c0, ↓g_c1, ↓reduceIte, ↓y_lt, ↓y_q1, ↓y_q2, ↓sn_q3, ↓sn_t1l, ↓sn_t1r, ↓sn_t2l, ↓sn_t2r, y_q1, y_q2, sn_q3, sn_t1l, sn_t1r, sn_t2l, sn_t2r, nI_clamp, x_leT, x_leF, x_ltT, x_ltF, x_eqT, x_eqF, x_le0T, x_le0F, x_0leT, x_lt0F, x_0ltT, x_0ltF, x_eq0T, x_eq0F, x_le1T, x_le1F, x_1leT, x_1leF, x_1ltT, x_1ltF, x_lt1T, x_lt1F, x_eq1T, x_eq1F, x_m1F, nI_add, nI_1, sn_mul, x_sub, x_sub1, sn_m1, l2, l3, l4, l5, l6, l7, l8, l9, l10, l11, l12, l13, l14, l15, l20, l30, l40, l48, l60, l64, l99, l100, l700, l999, not_true_eq_false, not_false_eq_true, x_t0, x_t1, lts1, x_10, x_1sub, eq_self, Nat.reduceSub, Nat.reduceAdd, Nat.reduceMul]
              exact k1
            · simp (disch := omega) only [↓g_in, ↓g_c0, ↓g_c1, ↓reduceIte, ↓y_lt, ↓y_q1, ↓y_q2, ↓sn_q3, ↓sn_t1l, ↓sn_t1r, ↓sn_t2l, ↓sn_t2r, y_q1, y_q2, sn_q3, sn_t1l, sn_t1r, sn_t2l, sn_t2r, nI_clamp, x_leT, x_leF, x_ltT, x_ltF, x_eqT, x_eqF, x_le0T, x_le0F, x_0leT, x_lt0F, x_0ltT, x_0ltF, x_eq0T, x_eq0F, x_le1T, x_le1F, x_1leT, x_1leF, x_1ltT, x_1ltF, x_lt1T, x_lt1F, x_eq1T, x_eq1F, x_m1F, nI_add, nI_1, sn_mul, x_sub, x_sub1, sn_m1, l2, l3, l4, l5, l6, l7, l8, l9, l10, l11, l12, l13, l14, l15, l20, l30, l40, l48, l60, l64, l99, l100, l700, l999, not_true_eq_false, not_false_eq_true, x_t0, x_t1, lts1, x_10, x_1sub, eq_self, Nat.reduceSub, Nat.reduceAdd, Nat.reduceMul, ↓q2_of hw2, ↓q1_of (m_wi1 (y := 99) (n := 99) hy (by omega) rfl), ↓q2_of (m_rt1 (x := 1) (e := 2) h0 n10), ↓q1_of m1]
              exact ml
          · rintro f ⟨v, s⟩ ⟨h1, h2⟩
            refine ⟨(.inl (nI v), s), ?_, by show Sum.inl (nI v) = _; rw [show v = _ from h1], h2⟩
            show F_VM_game_24B t (F_VM_game_24 t f) (nI y) (nI 0) (nI v) (nI 4) s = _
            unfold F_VM_game_24B
            simp (disch := omega) only [↓g_in, ↓g_c0, ↓g_c1, ↓reduceIte, ↓y_lt, ↓y_q1, ↓y_q2, ↓sn_q3, ↓sn_t1l, ↓sn_t1r, ↓sn_t2l, ↓sn_t2r, y_q1, y_q2, sn_q3, sn_t1l, sn_t1r, sn_t2l, sn_t2r, nI_clamp, x_leT, x_leF, x_ltT, x_ltF, x_eqT, x_eqF, x_le0T, x_le0F, x_0leT, x_lt0F, x_0ltT, x_0ltF, x_eq0T, x_eq0F, x_le1T, x_le1F, x_1leT, x_1leF, x_1ltT, x_1ltF, x_lt1T, x_lt1F, x_eq1T, x_eq1F, x_m1F, nI_add, nI_1, sn_mul, x_sub, x_sub1, sn_m1, l2, l3, l4, l5, l6, l7, l8, l9, l10, l11, l12, l13, l14, l15, l20, l30, l40, l48, l60, l64, l99, l100, l700, l999, not_true_eq_false, not_false_eq_true, x_t0, x_t1, lts1, x_10, x_1sub, eq_self, Nat.reduceSub, Nat.reduceAdd, Nat.reduceMul]
          · rintro f k ⟨v, s⟩ hk4 ⟨h1, h2⟩
            obtain ⟨s', r1, r2⟩ := c_rests h h2 (a := k / 2) (b := k % 2) (y := nI y) (by omega) (by omega)
            rw [show 2 * (k / 2) + k % 2 = k by omega] at r1
            obtain ⟨sh1, sh2⟩ := k_shr k hk4
            left
            refine ⟨(if grs A R (C 9) (nI y) k then v + 1 else v, s'), ⟨?_, r2⟩, ?_⟩
            · rw [cn, show cn (grs A R (C 9) (nI y)) k = v from h1.symm]
              show (if _ then _ else _) = _
              split <;> rfl
            · show F_VM_game_24B t (F_VM_game_24 t f) (nI y) (nI 0) (nI v) (nI k) s = F_VM_game_24 t f (nI y) (nI 0) (nI (if grs A R (C 9) (nI y) k then v + 1 else v)) (nI (k + 1)) s'
              unfold F_VM_game_24B
              rw [if_neg (show ¬ (4 : Int32) ≤ nI k from nI_ge (b := 4) hk4 (by omega)), sh1, sh2, r1, sn_q2]
              cases grs A R (C 9) (nI y) k
              · simp (disch := omega) only [↓g_in, ↓g_c0, ↓g_c1, ↓reduceIte, ↓y_lt, ↓y_q1, ↓y_q2, ↓sn_q3, ↓sn_t1l, ↓sn_t1r, ↓sn_t2l, ↓sn_t2r, y_q1, y_q2, sn_q3, sn_t1l, sn_t1r, sn_t2l, sn_t2r, nI_clamp, x_leT, x_leF, x_ltT, x_ltF, x_eqT, x_eqF, x_le0T, x_le0F, x_0leT, x_lt0F, x_0ltT, x_0ltF, x_eq0T, x_eq0F, x_le1T, x_le1F, x_1leT, x_1leF, x_1ltT, x_1ltF, x_lt1T, x_lt1F, x_eq1T, x_eq1F, x_m1F, nI_add, nI_1, sn_mul, x_sub, x_sub1, sn_m1, l2, l3, l4, l5, l6, l7, l8, l9, l10, l11, l12, l13, l14, l15, l20, l30, l40, l48, l60, l64, l99, l100, l700, l999, not_true_eq_false, not_false_eq_true, x_t0, x_t1, lts1, x_10, x_1sub, eq_self, Nat.reduceSub, Nat.reduceAdd, Nat.reduceMul, Bool.false_eq_true]
              · simp (disch := omega) only [↓g_in, ↓g_c0, ↓g_c1, ↓reduceIte, ↓y_lt, ↓y_q1, ↓y_q2, ↓sn_q3, ↓sn_t1l, ↓sn_t1r, ↓sn_t2l, ↓sn_t2r, y_q1, y_q2, sn_q3, sn_t1l, sn_t1r, sn_t2l, sn_t2r, nI_clamp, x_leT, x_leF, x_ltT, x_ltF, x_eqT, x_eqF, x_le0T, x_le0F, x_0leT, x_lt0F, x_0ltT, x_0ltF, x_eq0T, x_eq0F, x_le1T, x_le1F, x_1leT, x_1leF, x_1ltT, x_1ltF, x_lt1T, x_lt1F, x_eq1T, x_eq1F, x_m1F, nI_add, nI_1, sn_mul, x_sub, x_sub1, sn_m1, l2, l3, l4, l5, l6, l7, l8, l9, l10, l11, l12, l13, l14, l15, l20, l30, l40, l48, l60, l64, l99, l100, l700, l999, not_true_eq_false, not_false_eq_true, x_t0, x_t1, lts1, x_10, x_1sub, eq_self, Nat.reduceSub, Nat.reduceAdd, Nat.reduceMul]
        · have hw1 : w = 1 := by omega
          subst hw1
          have cl := lp_fs (fun f j s => F_VM_game_24 t f (nI y) 1 0 j s) (gmf A R (C 9) (nI y)) (fun k s => tfr t C s) (fun v b => b.1 = .inl (nI v) ∧ tfr t C b.2) (fun b => b.1 = .inl (-1) ∧ tfr t C b.2) 4 ?_ ?_ 4 0 sd_fu C rfl (by rw [sd_fu_val]; omega) (fun _ _ _ => rfl)
          · obtain ⟨⟨v1, C'⟩, k1, k2, k3⟩ := cl
            have k1 : F_VM_game_24 t sd_fu (nI y) 1 0 0 C = _ := k1
            have hv : v1 = .inl (fI (fx (gmf A R (C 9) (nI y)) 4 0)) ∧ tfr t C C' := by
              cases ho : fx (gmf A R (C 9) (nI y)) 4 0 with
              | none => exact k3 ho
              | some v => exact k2 v ho
            rw [if_neg hw0] at ml
            refine ⟨.inl (fI (fx (gmf A R (C 9) (nI y)) 4 0)), C', ?_, fun k _ _ h3 h4 => hv.2 k h3 h4, mq_v (M' := M2) ?_ h61 (m3.smM hs)⟩
            · have e1 : nI 1 = 1 := rfl
              rw [e1, if_neg (by decide), if_pos (by decide), if_neg (nI_pos (by omega)), if_pos (show nI y ≤ 99 from nI_le (b := 99) (by omega) (by omega)), k1, hv.1]
            · simp (disch := omega) only [↓g_in, ↓g_c0, ↓g_c1, ↓reduceIte, ↓y_lt, ↓y_q1, ↓y_q2, ↓sn_q3, ↓sn_t1l, ↓sn_t1r, ↓sn_t2l, ↓sn_t2r, y_q1, y_q2, sn_q3, sn_t1l, sn_t1r, sn_t2l, sn_t2r, nI_clamp, x_leT, x_leF, x_ltT, x_ltF, x_eqT, x_eqF, x_le0T, x_le0F, x_0leT, x_lt0F, x_0ltT, x_0ltF, x_eq0T, x_eq0F, x_le1T, x_le1F, x_1leT, x_1leF, x_1ltT, x_1ltF, x_lt1T, x_lt1F, x_eq1T, x_eq1F, x_m1F, nI_add, nI_1, sn_mul, x_sub, x_sub1, sn_m1, l2, l3, l4, l5, l6, l7, l8, l9, l10, l11, l12, l13, l14, l15, l20, l30, l40, l48, l60, l64, l99, l100, l700, l999, not_true_eq_false, not_false_eq_true, x_t0, x_t1, lts1, x_10, x_1sub, eq_self, Nat.reduceSub, Nat.reduceAdd, Nat.reduceMul, ↓q2_of hw2, ↓q1_of (m_wi1 (y := 99) (n := 99) hy (by omega) rfl), ↓q2_of (m_rt1 (x := 1) (e := 2) h0 n10), ↓q1_of m1]
              exact ml
          · intro f s hsx
            refine ⟨(.inl (-1), s), ?_, rfl, hsx⟩
            show F_VM_game_24B t (F_VM_game_24 t f) (nI y) 1 0 (nI 4) s = _
            unfold F_VM_game_24B
            simp (disch := omega) only [↓g_in, ↓g_c0, ↓g_c1, ↓reduceIte, ↓y_lt, ↓y_q1, ↓y_q2, ↓sn_q3, ↓sn_t1l, ↓sn_t1r, ↓sn_t2l, ↓sn_t2r, y_q1, y_q2, sn_q3, sn_t1l, sn_t1r, sn_t2l, sn_t2r, nI_clamp, x_leT, x_leF, x_ltT, x_ltF, x_eqT, x_eqF, x_le0T, x_le0F, x_0leT, x_lt0F, x_0ltT, x_0ltF, x_eq0T, x_eq0F, x_le1T, x_le1F, x_1leT, x_1leF, x_1ltT, x_1ltF, x_lt1T, x_lt1F, x_eq1T, x_eq1F, x_m1F, nI_add, nI_1, sn_mul, x_sub, x_sub1, sn_m1, l2, l3, l4, l5, l6, l7, l8, l9, l10, l11, l12, l13, l14, l15, l20, l30, l40, l48, l60, l64, l99, l100, l700, l999, not_true_eq_false, not_false_eq_true, x_t0, x_t1, lts1, x_10, x_1sub, eq_self, Nat.reduceSub, Nat.reduceAdd, Nat.reduceMul]
          · intro f k s hk4 h2
            obtain ⟨s', r1, r2⟩ := c_rests h h2 (a := k / 2) (b := k % 2) (y := nI y) (by omega) (by omega)
            rw [show 2 * (k / 2) + k % 2 = k by omega] at r1
            obtain ⟨sh1, sh2⟩ := k_shr k hk4
            have hu : F_VM_game_24 t (f + 1) (nI y) 1 0 (nI k) s = if grs A R (C 9) (nI y) k then some (.inl (nI (10 * (k / 2) + k % 2)), s') else F_VM_game_24 t f (nI y) 1 0 (nI (k + 1)) s' := by
              show F_VM_game_24B t (F_VM_game_24 t f) (nI y) 1 0 (nI k) s = _
              unfold F_VM_game_24B
              rw [if_neg (show ¬ (4 : Int32) ≤ nI k from nI_ge (b := 4) hk4 (by omega)), sh1, sh2, r1, sn_q2]
              cases grs A R (C 9) (nI y) k
              · simp (disch := omega) only [↓g_in, ↓g_c0, ↓g_c1, ↓reduceIte, ↓y_lt, ↓y_q1, ↓y_q2, ↓sn_q3, ↓sn_t1l, ↓sn_t1r, ↓sn_t2l, ↓sn_t2r, y_q1, y_q2, sn_q3, sn_t1l, sn_t1r, sn_t2l, sn_t2r, nI_clamp, x_leT, x_leF, x_ltT, x_ltF, x_eqT, x_eqF, x_le0T, x_le0F, x_0leT, x_lt0F, x_0ltT, x_0ltF, x_eq0T, x_eq0F, x_le1T, x_le1F, x_1leT, x_1leF, x_1ltT, x_1ltF, x_lt1T, x_lt1F, x_eq1T, x_eq1F, x_m1F, nI_add, nI_1, sn_mul, x_sub, x_sub1, sn_m1, l2, l3, l4, l5, l6, l7, l8, l9, l10, l11, l12, l13, l14, l15, l20, l30, l40, l48, l60, l64, l99, l100, l700, l999, not_true_eq_false, not_false_eq_true, x_t0, x_t1, lts1, x_10, x_1sub, eq_self, Nat.reduceSub, Nat.reduceAdd, Nat.reduceMul, Bool.false_eq_true]
              · simp (disch := omega) only [↓g_in, ↓g_c0, ↓g_c1, ↓reduceIte, ↓y_lt, ↓y_q1, ↓y_q2, ↓sn_q3, ↓sn_t1l, ↓sn_t1r, ↓sn_t2l, ↓sn_t2r, y_q1, y_q2, sn_q3, sn_t1l, sn_t1r, sn_t2l, sn_t2r, nI_clamp, x_leT, x_leF, x_ltT, x_ltF, x_eqT, x_eqF, x_le0T, x_le0F, x_0leT, x_lt0F, x_0ltT, x_0ltF, x_eq0T, x_eq0F, x_le1T, x_le1F, x_1leT, x_1leF, x_1ltT, x_1ltF, x_lt1T, x_lt1F, x_eq1T, x_eq1F, x_m1F, nI_add, nI_1, sn_mul, x_sub, x_sub1, sn_m1, l2, l3, l4, l5, l6, l7, l8, l9, l10, l11, l12, l13, l14, l15, l20, l30, l40, l48, l60, l64, l99, l100, l700, l999, not_true_eq_false, not_false_eq_true, x_t0, x_t1, lts1, x_10, x_1sub, eq_self, Nat.reduceSub, Nat.reduceAdd, Nat.reduceMul]
            unfold gmf
            refine ⟨fun v hv => ?_, fun hnn => ?_⟩
            · split at hv
              · rename_i e
                cases hv
                exact ⟨_, by rw [hu, if_pos e], rfl, r2⟩
              · cases hv
            · split at hnn
              · cases hnn
              · rename_i e
                exact ⟨s', r2, by rw [hu, if_neg e]⟩
      · intro f v _
        show F_Mo_game_27B (F_Mo_game_27 f) (nI w) (nI v.1) (fI v.2) (nI 4) M2 = _
        unfold F_Mo_game_27B
        by_cases hw0 : w = 0
        · simp (disch := omega) only [↓g_in, ↓g_c0, ↓g_c1, ↓reduceIte, ↓y_lt, ↓y_q1, ↓y_q2, ↓sn_q3, ↓sn_t1l, ↓sn_t1r, ↓sn_t2l, ↓sn_t2r, y_q1, y_q2, sn_q3, sn_t1l, sn_t1r, sn_t2l, sn_t2r, nI_clamp, x_leT, x_leF, x_ltT, x_ltF, x_eqT, x_eqF, x_le0T, x_le0F, x_0leT, x_lt0F, x_0ltT, x_0ltF, x_eq0T, x_eq0F, x_le1T, x_le1F, x_1leT, x_1leF, x_1ltT, x_1ltF, x_lt1T, x_lt1F, x_eq1T, x_eq1F, x_m1F, nI_add, nI_1, sn_mul, x_sub, x_sub1, sn_m1, l2, l3, l4, l5, l6, l7, l8, l9, l10, l11, l12, l13, l14, l15, l20, l30, l40, l48, l60, l64, l99, l100, l700, l999, not_true_eq_false, not_false_eq_true, x_t0, x_t1, lts1, x_10, x_1sub, eq_self, Nat.reduceSub, Nat.reduceAdd, Nat.reduceMul, hw0]
        · simp (disch := omega) only [↓g_in, ↓g_c0, ↓g_c1, ↓reduceIte, ↓y_lt, ↓y_q1, ↓y_q2, ↓sn_q3, ↓sn_t1l, ↓sn_t1r, ↓sn_t2l, ↓sn_t2r, y_q1, y_q2, sn_q3, sn_t1l, sn_t1r, sn_t2l, sn_t2r, nI_clamp, x_leT, x_leF, x_ltT, x_ltF, x_eqT, x_eqF, x_le0T, x_le0F, x_0leT, x_lt0F, x_0ltT, x_0ltF, x_eq0T, x_eq0F, x_le1T, x_le1F, x_1leT, x_1leF, x_1ltT, x_1ltF, x_lt1T, x_lt1F, x_eq1T, x_eq1F, x_m1F, nI_add, nI_1, sn_mul, x_sub, x_sub1, sn_m1, l2, l3, l4, l5, l6, l7, l8, l9, l10, l11, l12, l13, l14, l15, l20, l30, l40, l48, l60, l64, l99, l100, l700, l999, not_true_eq_false, not_false_eq_true, x_t0, x_t1, lts1, x_10, x_1sub, eq_self, Nat.reduceSub, Nat.reduceAdd, Nat.reduceMul, hw0]
      · intro f k v hk4 hv
        obtain ⟨f1, f2, f3, f4, f5⟩ := k_fo k hk4
        refine ⟨⟨by rw [cn, ← hv.1]; show (if _ then _ else _) = _; split <;> rfl, by show fxo v.2 _ = _; rw [fx_snoc, Nat.zero_add, hv.2]⟩, ?_⟩
        have e47 : F_Mo_game_47 (F_Mo_game_27 f) (nI w) (nI v.1) (fI v.2) (nI k) (nI (gfo k)) (nI (gso k)) M2 = F_Mo_game_27 f (nI w) (nI (if grs A R (C 9) (nI y) k then v.1 + 1 else v.1)) (fI (fxo v.2 (gmf A R (C 9) (nI y) k))) (nI (k + 1)) M2 := by
          have a1 := m2 k hk4
          have a2 := m2 (gfo k) f1
          have a3 := m2 (gso k) f2
          have hvb : ∀ q, v.2 = some q → q < 2 ^ 20 := fun q hq => by
            rw [hv.2] at hq
            have key : ∀ m j, j + m ≤ 4 → ∀ q, fx (gmf A R (C 9) (nI y)) m j = some q → q < 2 ^ 20 := by
              intro m
              induction m with
              | zero => intro j _ q hq; cases hq
              | succ m ih =>
                intro j hj q hq
                rw [fx_s] at hq
                cases e : gmf A R (C 9) (nI y) j with
                | some q' =>
                  rw [e] at hq
                  cases hq
                  unfold gmf at e
                  split at e
                  · cases e; omega
                  · cases e
                | none =>
                  rw [e] at hq
                  exact ih (j + 1) (by omega) q hq
            exact key k 0 (by omega) q hq
          have g2 : ∀ {α : Type} {o : Option α}, sd_gu (¬ (2 : Int32) = 0) o = o := fun {α o} => sn_gu (by decide)
          have g2' : ∀ {α : Type} {o : Option α}, sd_gu (¬ (nI 2 : Int32) = 0) o = o := fun {α o} => sn_gu (by decide)
          unfold F_Mo_game_47 gmf grs
          by_cases c1 : gG0 A R (C 9) (nI y) k < gG0 A R (C 9) (nI y) (gfo k)
          · simp (disch := omega) only [↓g_in, ↓g_c0, ↓g_c1, ↓reduceIte, ↓y_lt, ↓y_q1, ↓y_q2, ↓sn_q3, ↓sn_t1l, ↓sn_t1r, ↓sn_t2l, ↓sn_t2r, y_q1, y_q2, sn_q3, sn_t1l, sn_t1r, sn_t2l, sn_t2r, nI_clamp, x_leT, x_leF, x_ltT, x_ltF, x_eqT, x_eqF, x_le0T, x_le0F, x_0leT, x_lt0F, x_0ltT, x_0ltF, x_eq0T, x_eq0F, x_le1T, x_le1F, x_1leT, x_1leF, x_1ltT, x_1ltF, x_lt1T, x_lt1F, x_eq1T, x_eq1F, x_m1F, nI_add, nI_1, sn_mul, x_sub, x_sub1, sn_m1, l2, l3, l4, l5, l6, l7, l8, l9, l10, l11, l12, l13, l14, l15, l20, l30, l40, l48, l60, l64, l99, l100, l700, l999, not_true_eq_false, not_false_eq_true, x_t0, x_t1, lts1, x_10, x_1sub, eq_self, Nat.reduceSub, Nat.reduceAdd, Nat.reduceMul, a1.1, a2.1, c1, decide_true, Bool.not_true, Bool.false_and, Bool.false_eq_true, fxo_none]
          · by_cases c2 : gG1 A R (C 9) (nI y) k < gG1 A R (C 9) (nI y) (gso k)
            · have c3 := Int32.not_le.mpr c2
              simp (disch := omega) only [↓g_in, ↓g_c0, ↓g_c1, ↓reduceIte, ↓y_lt, ↓y_q1, ↓y_q2, ↓sn_q3, ↓sn_t1l, ↓sn_t1r, ↓sn_t2l, ↓sn_t2r, y_q1, y_q2, sn_q3, sn_t1l, sn_t1r, sn_t2l, sn_t2r, nI_clamp, x_leT, x_leF, x_ltT, x_ltF, x_eqT, x_eqF, x_le0T, x_le0F, x_0leT, x_lt0F, x_0ltT, x_0ltF, x_eq0T, x_eq0F, x_le1T, x_le1F, x_1leT, x_1leF, x_1ltT, x_1ltF, x_lt1T, x_lt1F, x_eq1T, x_eq1F, x_m1F, nI_add, nI_1, sn_mul, x_sub, x_sub1, sn_m1, l2, l3, l4, l5, l6, l7, l8, l9, l10, l11, l12, l13, l14, l15, l20, l30, l40, l48, l60, l64, l99, l100, l700, l999, not_true_eq_false, not_false_eq_true, x_t0, x_t1, lts1, x_10, x_1sub, eq_self, Nat.reduceSub, Nat.reduceAdd, Nat.reduceMul, a1.1, a2.1, a1.2, a3.2, c1, c2, c3, decide_true, decide_false, Bool.not_true, Bool.and_false, Bool.false_eq_true, fxo_none]
            · have c3 := Int32.not_lt.mp c2
              cases e2 : v.2 with
              | none =>
                have e3 : fI none = -1 := rfl
                have e4 : fI (fxo none (some (10 * (k / 2) + k % 2))) = nI (10 * (k / 2) + k % 2) := rfl
                simp (disch := omega) only [↓g_in, ↓g_c0, ↓g_c1, ↓reduceIte, ↓y_lt, ↓y_q1, ↓y_q2, ↓sn_q3, ↓sn_t1l, ↓sn_t1r, ↓sn_t2l, ↓sn_t2r, y_q1, y_q2, sn_q3, sn_t1l, sn_t1r, sn_t2l, sn_t2r, nI_clamp, x_leT, x_leF, x_ltT, x_ltF, x_eqT, x_eqF, x_le0T, x_le0F, x_0leT, x_lt0F, x_0ltT, x_0ltF, x_eq0T, x_eq0F, x_le1T, x_le1F, x_1leT, x_1leF, x_1ltT, x_1ltF, x_lt1T, x_lt1F, x_eq1T, x_eq1F, x_m1F, nI_add, nI_1, sn_mul, x_sub, x_sub1, sn_m1, l2, l3, l4, l5, l6, l7, l8, l9, l10, l11, l12, l13, l14, l15, l20, l30, l40, l48, l60, l64, l99, l100, l700, l999, not_true_eq_false, not_false_eq_true, x_t0, x_t1, lts1, x_10, x_1sub, eq_self, Nat.reduceSub, Nat.reduceAdd, Nat.reduceMul, a1.1, a2.1, a1.2, a3.2, c1, c2, c3, decide_false, Bool.not_false, Bool.and_self, e3, e4, ↓g2, g2', m_dv2, m_md2]
              | some q =>
                have hq := hvb q e2
                have e3 : fI (some q) = nI q := rfl
                have e4 : fI (fxo (some q) (some (10 * (k / 2) + k % 2))) = nI q := rfl
                simp (disch := omega) only [↓g_in, ↓g_c0, ↓g_c1, ↓reduceIte, ↓y_lt, ↓y_q1, ↓y_q2, ↓sn_q3, ↓sn_t1l, ↓sn_t1r, ↓sn_t2l, ↓sn_t2r, y_q1, y_q2, sn_q3, sn_t1l, sn_t1r, sn_t2l, sn_t2r, nI_clamp, x_leT, x_leF, x_ltT, x_ltF, x_eqT, x_eqF, x_le0T, x_le0F, x_0leT, x_lt0F, x_0ltT, x_0ltF, x_eq0T, x_eq0F, x_le1T, x_le1F, x_1leT, x_1leF, x_1ltT, x_1ltF, x_lt1T, x_lt1F, x_eq1T, x_eq1F, x_m1F, nI_add, nI_1, sn_mul, x_sub, x_sub1, sn_m1, l2, l3, l4, l5, l6, l7, l8, l9, l10, l11, l12, l13, l14, l15, l20, l30, l40, l48, l60, l64, l99, l100, l700, l999, not_true_eq_false, not_false_eq_true, x_t0, x_t1, lts1, x_10, x_1sub, eq_self, Nat.reduceSub, Nat.reduceAdd, Nat.reduceMul, a1.1, a2.1, a1.2, a3.2, c1, c2, c3, decide_false, Bool.not_false, Bool.and_self, e3, e4]
        have g2 : ∀ {α : Type} {o : Option α}, sd_gu (¬ (2 : Int32) = 0) o = o := fun {α o} => sn_gu (by decide)
        have g4 : ∀ {α : Type} {o : Option α}, sd_gu (¬ (4 : Int32) = 0) o = o := fun {α o} => sn_gu (by decide)
        show F_Mo_game_27B (F_Mo_game_27 f) (nI w) (nI v.1) (fI v.2) (nI k) M2 = _
        unfold F_Mo_game_27B
        rw [if_neg (show ¬ (4 : Int32) ≤ nI k from nI_ge (b := 4) hk4 (by omega)), g4, y_lt, g2, f3, show sd_mod (nI k) 2 = nI (k % 2) from m_md2 (by omega)]
        by_cases ho : k % 2 = 0
        · rw [if_neg (sn_nn (by rw [ho]; rfl)), f4 ho]
          exact e47
        · rw [if_pos (nI_ne0 (by omega) (by omega)), f5 ho]
          exact e47
end QU
