/-! ===== whom a side aims at, a day ===== -/
def pt (A : sA) (k : Nat) : Int32 := bs (fun s => decide (A 2 s = k)) (A 0 0)
theorem bt_pt {A : sA} (hw : wA A) {k i : Nat} : bt (pt A k) i = (decide (i < A 0 0) && decide (A 2 i = k)) := by
  have := hw.1
  by_cases hi : i < 32
  · unfold pt
    rw [bt_bs hi (by omega)]
  · rw [b_big (by omega), decide_eq_false (by omega)]
    rfl
theorem lo14_pt {A : sA} (hw : wA A) {k : Nat} : lo14 (pt A k) := lo14_bs hw.1
theorem c_ofPart' {A : sA} {t : Nat} {I : sm_MI} {k : Nat} (hc : cA A t I) (hk : k < 4) : F_Valley_ofPart t (nI k) I = some (pt A k) := c_ofPart hc hk
def vm (A : sA) (c : Nat → Int32) (i : Nat) : Nat → Int32
  | 0 => nI (A 5 i)
  | 1 => nI (A 2 i)
  | 2 => nI i
  | _ => nI (pc (pt A (A 2 i) &&& c 0))
/-- what it is worth to aim at one -/
def wo (A : sA) (R : Nat → List Nat) (σ : Nat) (c : Nat → Int32) (i : Nat) : Int32 := if R (2 + σ) = [] then nI (A 5 i) else ev (vm A c i) (R (2 + σ)) []
theorem c_worth {A : sA} {R : Nat → List Nat} {t q σ i : Nat} {I : sm_MI} (hw : wA A) (hr : rW R) (hc : cA A t I) (hR : rC R (t + 14) I) (hσ : σ < 2) (hi : i < A 0 0) (q18 : q ≠ t + 18) (q19 : q ≠ t + 19) :
    ∃ I', F_War_worthOf t q (nI σ) (nI i) I = some (wo A R σ (I q) i, I') ∧ ∀ k, k ≠ t + 18 → k ≠ t + 19 → I' k = I k := by
  have hn := hw.1
  obtain ⟨-, a2, -, -, a5⟩ := hc.2.2.2.1 i hi
  obtain ⟨-, b2, -, -, b5⟩ := hw.2.2.2.2.1 i hi
  unfold F_War_worthOf
  by_cases he : R (2 + σ) = []
  · refine ⟨I, ?_, fun _ _ _ => rfl⟩
    simp (disch := first | assumption | ((repeat first | refine cA_up (by omega) ?_ | refine rC_up (by omega) ?_ | refine mA_up (by omega) ?_ | refine rM_up (by omega) ?_ | refine stR_up (by omega) ?_); assumption) | omega) only [↓g_in, ↓g_c0, ↓g_c1, ↓reduceIte, y_lt, y_q1, y_q2, sn_q3, sn_t1l, sn_t1r, sn_t2l, sn_t2r, nI_clamp, x_leT, x_leF, x_ltT, x_ltF, x_eqT, x_eqF, x_le0T, x_le0F, x_0leT, x_lt0F, x_0ltT, x_0ltF, x_eq0T, x_eq0F, x_le1T, x_le1F, x_1leT, x_1leF, x_1ltT, x_1ltF, x_lt1T, x_lt1F, x_eq1T, x_eq1F, x_m1F, nI_add, nI_1, sn_mul, x_sub, x_sub1, sn_m1, l2, l3, l4, l5, l6, l7, l8, l9, l10, l11, l12, l13, l14, l15, l20, l30, l40, l48, l60, l64, l99, l100, l700, l999, not_true_eq_false, not_false_eq_true, x_t0, x_t1, lts1, x_10, x_1sub, eq_self, Nat.reduceSub, Nat.reduceAdd, Nat.reduceMul, c_has (R := R), he, a5]
    unfold wo
    rw [if_pos he]
  · have key : ∀ M : sm_MI, (∀ k, k < 4 → M (t + 18) k = vm A (I q) i k) → (∀ k, k ≠ t + 18 → M k = I k) →
        ∃ I', (sd_q2 (F_Rules_result (t + 14) (nI (2 + σ)) M) fun r16 I17 => some (r16, I17)) = some (wo A R σ (I q) i, I') ∧ ∀ k, k ≠ t + 18 → k ≠ t + 19 → I' k = I k := by
      intro M h1 h2
      have hRM : rC R (t + 14) M := by
        unfold rC
        rw [h2 _ (by omega), h2 _ (by omega), h2 _ (by omega)]
        exact hR
      obtain ⟨I', e1, e2⟩ := c_result (val := vm A (I q) i) (nv := 4) hRM (show 2 + σ < 4 by omega) (by omega) (by have := hr (2 + σ) (by omega) he; unfold nvs at this; rw [if_neg (by omega)] at this; exact this) he h1
      refine ⟨I', ?_, fun k h3 h4 => by rw [e2 k (by omega), h2 k h3]⟩
      rw [e1, sn_q2]
      unfold wo
      rw [if_neg he]
    simp (disch := first | assumption | ((repeat first | refine cA_up (by omega) ?_ | refine rC_up (by omega) ?_ | refine mA_up (by omega) ?_ | refine rM_up (by omega) ?_ | refine stR_up (by omega) ?_); assumption) | omega) only [↓g_in, ↓g_c0, ↓g_c1, ↓reduceIte, y_lt, y_q1, y_q2, sn_q3, sn_t1l, sn_t1r, sn_t2l, sn_t2r, nI_clamp, x_leT, x_leF, x_ltT, x_ltF, x_eqT, x_eqF, x_le0T, x_le0F, x_0leT, x_lt0F, x_0ltT, x_0ltF, x_eq0T, x_eq0F, x_le1T, x_le1F, x_1leT, x_1leF, x_1ltT, x_1ltF, x_lt1T, x_lt1F, x_eq1T, x_eq1F, x_m1F, nI_add, nI_1, sn_mul, x_sub, x_sub1, sn_m1, l2, l3, l4, l5, l6, l7, l8, l9, l10, l11, l12, l13, l14, l15, l20, l30, l40, l48, l60, l64, l99, l100, l700, l999, not_true_eq_false, not_false_eq_true, x_t0, x_t1, lts1, x_10, x_1sub, eq_self, Nat.reduceSub, Nat.reduceAdd, Nat.reduceMul, c_has (R := R), he, a2, a5, c_ofPart' (A := A), up_n, int_bc (lo14_and (lo14_pt hw))]
    refine key _ ?_ (fun k hk => by simp (disch := omega) only [↓g_in, ↓g_c0, ↓g_c1, ↓reduceIte, y_lt, y_q1, y_q2, sn_q3, sn_t1l, sn_t1r, sn_t2l, sn_t2r, nI_clamp, x_leT, x_leF, x_ltT, x_ltF, x_eqT, x_eqF, x_le0T, x_le0F, x_0leT, x_lt0F, x_0ltT, x_0ltF, x_eq0T, x_eq0F, x_le1T, x_le1F, x_1leT, x_1leF, x_1ltT, x_1ltF, x_lt1T, x_lt1F, x_eq1T, x_eq1F, x_m1F, nI_add, nI_1, sn_mul, x_sub, x_sub1, sn_m1, l2, l3, l4, l5, l6, l7, l8, l9, l10, l11, l12, l13, l14, l15, l20, l30, l40, l48, l60, l64, l99, l100, l700, l999, not_true_eq_false, not_false_eq_true, x_t0, x_t1, lts1, x_10, x_1sub, eq_self, Nat.reduceSub, Nat.reduceAdd, Nat.reduceMul, up_n])
    intro k hk
    rcases (show k = 0 ∨ k = 1 ∨ k = 2 ∨ k = 3 by omega) with rfl | rfl | rfl | rfl <;> simp (disch := omega) only [↓g_in, ↓g_c0, ↓g_c1, ↓reduceIte, y_lt, y_q1, y_q2, sn_q3, sn_t1l, sn_t1r, sn_t2l, sn_t2r, nI_clamp, x_leT, x_leF, x_ltT, x_ltF, x_eqT, x_eqF, x_le0T, x_le0F, x_0leT, x_lt0F, x_0ltT, x_0ltF, x_eq0T, x_eq0F, x_le1T, x_le1F, x_1leT, x_1leF, x_1ltT, x_1ltF, x_lt1T, x_lt1F, x_eq1T, x_eq1F, x_m1F, nI_add, nI_1, sn_mul, x_sub, x_sub1, sn_m1, l2, l3, l4, l5, l6, l7, l8, l9, l10, l11, l12, l13, l14, l15, l20, l30, l40, l48, l60, l64, l99, l100, l700, l999, not_true_eq_false, not_false_eq_true, x_t0, x_t1, lts1, x_10, x_1sub, eq_self, Nat.reduceSub, Nat.reduceAdd, Nat.reduceMul, up_s, up_m] <;> rfl
theorem cn_to {p : Nat → Bool} {n : Nat} : ∀ {N : Nat}, n ≤ N → (∀ i, n ≤ i → i < N → p i = false) → cn p N = cn p n
  | 0, h, _ => by rw [show n = 0 by omega]
  | N + 1, h, hp => by
    by_cases e : n = N + 1
    · rw [e]
    · rw [cn, hp N (by omega) (by omega), cn_to (by omega) (fun i h1 h2 => hp i h1 (by omega))]
      rfl
theorem m_worth {A : sA} {R : Nat → List Nat} {p σ i : Nat} {I : sm_MI} {c : Nat → Int32} (hw : wA A) (hr : rW R) (hm : mA A I) (hM : rM R I) (hs : stR (A 0 0) (I p) c) (hσ : σ < 2) (hi : i < A 0 0) :
    ∃ I', F_Mo_aimsFor p (nI σ) (nI i) I = some (wo A R σ c i, I') ∧ ∀ k, k ≠ 89 → k ≠ 90 → I' k = I k := by
  have hn := hw.1
  obtain ⟨-, a2, -, -, a5⟩ := hm.2.2.2.1 i hi
  obtain ⟨-, b2, -, -, b5⟩ := hw.2.2.2.2.1 i hi
  unfold F_Mo_aimsFor
  by_cases he : R (2 + σ) = []
  · refine ⟨I, ?_, fun _ _ _ => rfl⟩
    have h := (hM (2 + σ) (by omega)).1 he
    simp (disch := omega) only [↓g_in, ↓g_c0, ↓g_c1, ↓reduceIte, y_lt, y_q1, y_q2, sn_q3, sn_t1l, sn_t1r, sn_t2l, sn_t2r, nI_clamp, x_leT, x_leF, x_ltT, x_ltF, x_eqT, x_eqF, x_le0T, x_le0F, x_0leT, x_lt0F, x_0ltT, x_0ltF, x_eq0T, x_eq0F, x_le1T, x_le1F, x_1leT, x_1leF, x_1ltT, x_1ltF, x_lt1T, x_lt1F, x_eq1T, x_eq1F, x_m1F, nI_add, nI_1, sn_mul, x_sub, x_sub1, sn_m1, l2, l3, l4, l5, l6, l7, l8, l9, l10, l11, l12, l13, l14, l15, l20, l30, l40, l48, l60, l64, l99, l100, l700, l999, not_true_eq_false, not_false_eq_true, x_t0, x_t1, lts1, x_10, x_1sub, eq_self, Nat.reduceSub, Nat.reduceAdd, Nat.reduceMul, h, a5]
    unfold wo
    rw [if_pos he]
  · obtain ⟨a, h1, h2, h3⟩ := (hM (2 + σ) (by omega)).2 he
    have ha : a < 2800 := by
      obtain ⟨z, hz⟩ := mcs_ne (off := ofs (2 + σ)) (P := R (2 + σ))
      have := (h3 0 z hz).2
      omega
    simp (disch := omega) only [↓g_in, ↓g_c0, ↓g_c1, ↓reduceIte, y_lt, y_q1, y_q2, sn_q3, sn_t1l, sn_t1r, sn_t2l, sn_t2r, nI_clamp, x_leT, x_leF, x_ltT, x_ltF, x_eqT, x_eqF, x_le0T, x_le0F, x_0leT, x_lt0F, x_0ltT, x_0ltF, x_eq0T, x_eq0F, x_le1T, x_le1F, x_1leT, x_1leF, x_1ltT, x_1ltF, x_lt1T, x_lt1F, x_eq1T, x_eq1F, x_m1F, nI_add, nI_1, sn_mul, x_sub, x_sub1, sn_m1, l2, l3, l4, l5, l6, l7, l8, l9, l10, l11, l12, l13, l14, l15, l20, l30, l40, l48, l60, l64, l99, l100, l700, l999, not_true_eq_false, not_false_eq_true, x_t0, x_t1, lts1, x_10, x_1sub, eq_self, Nat.reduceSub, Nat.reduceAdd, Nat.reduceMul, h1]
    have lp := lp_R (fun f j (z : Nat) => F_Mo_aimsFor_17 p f (nI σ) (nI i) (nI z) j I) (fun j z => z = cn (fun k => bt (c 0) k && decide (A 2 k = A 2 i)) j) (fun b => b.1 = wo A R σ c i ∧ ∀ k, k ≠ 89 → k ≠ 90 → b.2 k = I k) (A 0 0) 0 rfl (by omega) ?_ ?_
    · obtain ⟨b, e, hb⟩ := lp
      exact ⟨b.2, by show F_Mo_aimsFor_17 p sd_fu (nI σ) (nI i) (nI 0) (nI 0) I = _; rw [e, ← hb.1], hb.2⟩
    · intro f z hz
      have key : ∀ M : sm_MI, (∀ k, k < 4 → M 89 (k + 6) = vm A c i k) → (∀ k, k ≠ 89 → M k = I k) →
          ∃ b : Int32 × sm_MI, (sd_q2 (F_Mo_reckons (nI a) M) fun r12 I13 => some (r12, I13)) = some b ∧ b.1 = wo A R σ c i ∧ ∀ k, k ≠ 89 → k ≠ 90 → b.2 k = I k := by
        intro M g1 g2
        obtain ⟨I', e1, e2⟩ := m_reckons (R := R) (ρ := 2 + σ) (a := a) (val := vm A c i) (I := M) (by omega) (hr (2 + σ) (by omega) he) h2 (by rw [g2 71 (by omega)]; exact h3) (by unfold nvs ofs; rw [if_neg (by omega), if_neg (by omega)]; exact g1)
        refine ⟨(wo A R σ c i, I'), ?_, rfl, fun k h3 h4 => by show I' k = I k; rw [e2 k h4, g2 k h3]⟩
        rw [e1, sn_q2]
        unfold wo
        rw [if_neg he]
      show ∃ b, F_Mo_aimsFor_17B p (F_Mo_aimsFor_17 p f) (nI σ) (nI i) (nI z) (nI (A 0 0)) I = some b ∧ _
      unfold F_Mo_aimsFor_17B
      simp (disch := omega) only [↓g_in, ↓g_c0, ↓g_c1, ↓reduceIte, y_lt, y_q1, y_q2, sn_q3, sn_t1l, sn_t1r, sn_t2l, sn_t2r, nI_clamp, x_leT, x_leF, x_ltT, x_ltF, x_eqT, x_eqF, x_le0T, x_le0F, x_0leT, x_lt0F, x_0ltT, x_0ltF, x_eq0T, x_eq0F, x_le1T, x_le1F, x_1leT, x_1leF, x_1ltT, x_1ltF, x_lt1T, x_lt1F, x_eq1T, x_eq1F, x_m1F, nI_add, nI_1, sn_mul, x_sub, x_sub1, sn_m1, l2, l3, l4, l5, l6, l7, l8, l9, l10, l11, l12, l13, l14, l15, l20, l30, l40, l48, l60, l64, l99, l100, l700, l999, not_true_eq_false, not_false_eq_true, x_t0, x_t1, lts1, x_10, x_1sub, eq_self, Nat.reduceSub, Nat.reduceAdd, Nat.reduceMul, hm.1, a2, a5, up_n, h1]
      refine key _ ?_ (fun k hk => by simp (disch := omega) only [↓g_in, ↓g_c0, ↓g_c1, ↓reduceIte, y_lt, y_q1, y_q2, sn_q3, sn_t1l, sn_t1r, sn_t2l, sn_t2r, nI_clamp, x_leT, x_leF, x_ltT, x_ltF, x_eqT, x_eqF, x_le0T, x_le0F, x_0leT, x_lt0F, x_0ltT, x_0ltF, x_eq0T, x_eq0F, x_le1T, x_le1F, x_1leT, x_1leF, x_1ltT, x_1ltF, x_lt1T, x_lt1F, x_eq1T, x_eq1F, x_m1F, nI_add, nI_1, sn_mul, x_sub, x_sub1, sn_m1, l2, l3, l4, l5, l6, l7, l8, l9, l10, l11, l12, l13, l14, l15, l20, l30, l40, l48, l60, l64, l99, l100, l700, l999, not_true_eq_false, not_false_eq_true, x_t0, x_t1, lts1, x_10, x_1sub, eq_self, Nat.reduceSub, Nat.reduceAdd, Nat.reduceMul, up_n])
      intro k hk
      have hz2 : z = pc (pt A (A 2 i) &&& c 0) := by
        rw [hz]
        unfold pc
        rw [cn_to (n := A 0 0) hn (fun j h1 h2 => by rw [b_and, (hs.1 j h1).1, Bool.and_false])]
        refine cn_congr (fun j hj => ?_)
        rw [b_and, bt_pt hw, decide_eq_true hj, Bool.true_and, Bool.and_comm]
      rcases (show k = 0 ∨ k = 1 ∨ k = 2 ∨ k = 3 by omega) with rfl | rfl | rfl | rfl <;> simp (disch := omega) only [↓g_in, ↓g_c0, ↓g_c1, ↓reduceIte, y_lt, y_q1, y_q2, sn_q3, sn_t1l, sn_t1r, sn_t2l, sn_t2r, nI_clamp, x_leT, x_leF, x_ltT, x_ltF, x_eqT, x_eqF, x_le0T, x_le0F, x_0leT, x_lt0F, x_0ltT, x_0ltF, x_eq0T, x_eq0F, x_le1T, x_le1F, x_1leT, x_1leF, x_1ltT, x_1ltF, x_lt1T, x_lt1F, x_eq1T, x_eq1F, x_m1F, nI_add, nI_1, sn_mul, x_sub, x_sub1, sn_m1, l2, l3, l4, l5, l6, l7, l8, l9, l10, l11, l12, l13, l14, l15, l20, l30, l40, l48, l60, l64, l99, l100, l700, l999, not_true_eq_false, not_false_eq_true, x_t0, x_t1, lts1, x_10, x_1sub, eq_self, Nat.reduceSub, Nat.reduceAdd, Nat.reduceMul, up_s, up_m, Nat.reduceAdd]
      · rfl
      · rfl
      · rfl
      · rw [hz2]; rfl
    · intro f j z hj hz
      obtain ⟨-, d2, -, -, d5⟩ := hm.2.2.2.1 j hj
      obtain ⟨-, g2, -, -, g5⟩ := hw.2.2.2.2.1 j hj
      refine Or.inl ⟨z + (if (bt (c 0) j && decide (A 2 j = A 2 i)) then 1 else 0), by rw [hz]; rfl, ?_⟩
      show F_Mo_aimsFor_17B p (F_Mo_aimsFor_17 p f) (nI σ) (nI i) (nI z) (nI j) I = _
      unfold F_Mo_aimsFor_17B
      have hb := (stR_b hs hj).1
      rw [← hb]
      by_cases h0 : I p j = 0
      · by_cases h5 : A 2 j = A 2 i
        · simp (disch := omega) only [↓g_in, ↓g_c0, ↓g_c1, ↓reduceIte, y_lt, y_q1, y_q2, sn_q3, sn_t1l, sn_t1r, sn_t2l, sn_t2r, nI_clamp, x_leT, x_leF, x_ltT, x_ltF, x_eqT, x_eqF, x_le0T, x_le0F, x_0leT, x_lt0F, x_0ltT, x_0ltF, x_eq0T, x_eq0F, x_le1T, x_le1F, x_1leT, x_1leF, x_1ltT, x_1ltF, x_lt1T, x_lt1F, x_eq1T, x_eq1F, x_m1F, nI_add, nI_1, sn_mul, x_sub, x_sub1, sn_m1, l2, l3, l4, l5, l6, l7, l8, l9, l10, l11, l12, l13, l14, l15, l20, l30, l40, l48, l60, l64, l99, l100, l700, l999, not_true_eq_false, not_false_eq_true, x_t0, x_t1, lts1, x_10, x_1sub, eq_self, Nat.reduceSub, Nat.reduceAdd, Nat.reduceMul, hm.1, h0, d2, a2, h5, decide_true, Bool.and_true]
        · simp (disch := omega) only [↓g_in, ↓g_c0, ↓g_c1, ↓reduceIte, y_lt, y_q1, y_q2, sn_q3, sn_t1l, sn_t1r, sn_t2l, sn_t2r, nI_clamp, x_leT, x_leF, x_ltT, x_ltF, x_eqT, x_eqF, x_le0T, x_le0F, x_0leT, x_lt0F, x_0ltT, x_0ltF, x_eq0T, x_eq0F, x_le1T, x_le1F, x_1leT, x_1leF, x_1ltT, x_1ltF, x_lt1T, x_lt1F, x_eq1T, x_eq1F, x_m1F, nI_add, nI_1, sn_mul, x_sub, x_sub1, sn_m1, l2, l3, l4, l5, l6, l7, l8, l9, l10, l11, l12, l13, l14, l15, l20, l30, l40, l48, l60, l64, l99, l100, l700, l999, not_true_eq_false, not_false_eq_true, x_t0, x_t1, lts1, x_10, x_1sub, eq_self, Nat.reduceSub, Nat.reduceAdd, Nat.reduceMul, hm.1, h0, d2, a2, h5, decide_true, decide_false, Bool.and_false, Bool.false_eq_true, Int32.add_zero, Nat.add_zero]
      · simp (disch := omega) only [↓g_in, ↓g_c0, ↓g_c1, ↓reduceIte, y_lt, y_q1, y_q2, sn_q3, sn_t1l, sn_t1r, sn_t2l, sn_t2r, nI_clamp, x_leT, x_leF, x_ltT, x_ltF, x_eqT, x_eqF, x_le0T, x_le0F, x_0leT, x_lt0F, x_0ltT, x_0ltF, x_eq0T, x_eq0F, x_le1T, x_le1F, x_1leT, x_1leF, x_1ltT, x_1ltF, x_lt1T, x_lt1F, x_eq1T, x_eq1F, x_m1F, nI_add, nI_1, sn_mul, x_sub, x_sub1, sn_m1, l2, l3, l4, l5, l6, l7, l8, l9, l10, l11, l12, l13, l14, l15, l20, l30, l40, l48, l60, l64, l99, l100, l700, l999, not_true_eq_false, not_false_eq_true, x_t0, x_t1, lts1, x_10, x_1sub, eq_self, Nat.reduceSub, Nat.reduceAdd, Nat.reduceMul, hm.1, h0, decide_false, Bool.false_and, Bool.false_eq_true, Int32.add_zero, Nat.add_zero]
def tgs (A : sA) (R : Nat → List Nat) (σ : Nat) (c : Nat → Int32) (j : Nat) (z : Int32 × Int32) : Int32 × Int32 := if bt (sd A (1 - σ) &&& c 0) j then (if z.1 = -1 ∨ z.2 < wo A R σ c j then (nI j, wo A R σ c j) else z) else z
/-- whom a side aims at, -1: nobody -/
def tg (A : sA) (R : Nat → List Nat) (σ : Nat) (c : Nat → Int32) : Int32 := (itr (tgs A R σ c) 14 (-1, 0)).1
theorem itr_to {α : Type} {s : Nat → α → α} {n : Nat} {a : α} : ∀ {N : Nat}, n ≤ N → (∀ j b, n ≤ j → j < N → s j b = b) → itr s N a = itr s n a
  | 0, h, _ => by rw [show n = 0 by omega]
  | N + 1, h, hp => by
    by_cases e : n = N + 1
    · rw [e]
    · rw [itr, hp N _ (by omega) (by omega)]
      exact itr_to (by omega) (fun j b h1 h2 => hp j b h1 (by omega))
theorem cA_fr {A : sA} {t : Nat} {I I' : sm_MI} (h : cA A t I) (hk : ∀ k, k ≠ t + 18 → k ≠ t + 19 → I' k = I k) : cA A t I' := cA_same h (fun k hk2 => hk _ (by omega) (by omega))
theorem rC_fr {R : Nat → List Nat} {t : Nat} {I I' : sm_MI} (h : rC R (t + 14) I) (hk : ∀ k, k ≠ t + 18 → k ≠ t + 19 → I' k = I k) : rC R (t + 14) I' := by
  unfold rC
  rw [hk _ (by omega) (by omega), hk _ (by omega) (by omega), hk _ (by omega) (by omega)]
  exact h
theorem mA_fr {A : sA} {I I' : sm_MI} (h : mA A I) (hk : ∀ k, k ≠ 89 → k ≠ 90 → I' k = I k) : mA A I' := mA_of h (by rw [hk 61 (by omega) (by omega)]) (by rw [hk 61 (by omega) (by omega)]) (by rw [hk 61 (by omega) (by omega)]) (fun k h1 h2 => hk k (by omega) (by omega))
theorem rM_fr {R : Nat → List Nat} {I I' : sm_MI} (h : rM R I) (hk : ∀ k, k ≠ 89 → k ≠ 90 → I' k = I k) : rM R I' := by
  unfold rM
  rw [hk _ (by omega) (by omega), hk _ (by omega) (by omega)]
  exact h
theorem c_target {A : sA} {R : Nat → List Nat} {t q σ : Nat} {I : sm_MI} (hw : wA A) (hr : rW R) (hc : cA A t I) (hR : rC R (t + 14) I) (hσ : σ < 2) (q18 : q ≠ t + 18) (q19 : q ≠ t + 19) :
    ∃ I', F_War_target t q (nI σ) I = some (tg A R σ (I q), I') ∧ ∀ k, k ≠ t + 18 → k ≠ t + 19 → I' k = I k := by
  unfold F_War_target
  simp (disch := first | assumption | ((repeat first | refine cA_up (by omega) ?_ | refine rC_up (by omega) ?_ | refine mA_up (by omega) ?_ | refine rM_up (by omega) ?_ | refine stR_up (by omega) ?_); assumption) | omega) only [↓g_in, ↓g_c0, ↓g_c1, ↓reduceIte, y_lt, y_q1, y_q2, sn_q3, sn_t1l, sn_t1r, sn_t2l, sn_t2r, nI_clamp, x_leT, x_leF, x_ltT, x_ltF, x_eqT, x_eqF, x_le0T, x_le0F, x_0leT, x_lt0F, x_0ltT, x_0ltF, x_eq0T, x_eq0F, x_le1T, x_le1F, x_1leT, x_1leF, x_1ltT, x_1ltF, x_lt1T, x_lt1F, x_eq1T, x_eq1F, x_m1F, nI_add, nI_1, sn_mul, x_sub, x_sub1, sn_m1, l2, l3, l4, l5, l6, l7, l8, l9, l10, l11, l12, l13, l14, l15, l20, l30, l40, l48, l60, l64, l99, l100, l700, l999, not_true_eq_false, not_false_eq_true, x_t0, x_t1, lts1, x_10, x_1sub, eq_self, Nat.reduceSub, Nat.reduceAdd, Nat.reduceMul, c_ofSide' (A := A)]
  have lp := lp_R (fun f j (z : (Int32 × Int32) × sm_MI) => F_War_target_15 t q f (nI σ) (sd A (1 - σ) &&& I q 0) z.1.1 z.1.2 j z.2) (fun j z => z.1 = itr (tgs A R σ (I q)) j (-1, 0) ∧ ∀ k, k ≠ t + 18 → k ≠ t + 19 → z.2 k = I k) (fun b => b.1 = tg A R σ (I q) ∧ ∀ k, k ≠ t + 18 → k ≠ t + 19 → b.2 k = I k) 14 ((-1, 0), I) ⟨rfl, fun _ _ _ => rfl⟩ (by omega) ?_ ?_
  · obtain ⟨b, e, hb⟩ := lp
    exact ⟨b.2, by rw [← hb.1]; exact e, hb.2⟩
  · rintro f ⟨⟨z1, z2⟩, M⟩ ⟨h1, h2⟩
    refine ⟨(z1, M), ?_, ?_, h2⟩
    · show F_War_target_15B t q (F_War_target_15 t q f) (nI σ) (sd A (1 - σ) &&& I q 0) z1 z2 (nI 14) M = _
      unfold F_War_target_15B
      simp (disch := omega) only [↓g_in, ↓g_c0, ↓g_c1, ↓reduceIte, y_lt, y_q1, y_q2, sn_q3, sn_t1l, sn_t1r, sn_t2l, sn_t2r, nI_clamp, x_leT, x_leF, x_ltT, x_ltF, x_eqT, x_eqF, x_le0T, x_le0F, x_0leT, x_lt0F, x_0ltT, x_0ltF, x_eq0T, x_eq0F, x_le1T, x_le1F, x_1leT, x_1leF, x_1ltT, x_1ltF, x_lt1T, x_lt1F, x_eq1T, x_eq1F, x_m1F, nI_add, nI_1, sn_mul, x_sub, x_sub1, sn_m1, l2, l3, l4, l5, l6, l7, l8, l9, l10, l11, l12, l13, l14, l15, l20, l30, l40, l48, l60, l64, l99, l100, l700, l999, not_true_eq_false, not_false_eq_true, x_t0, x_t1, lts1, x_10, x_1sub, eq_self, Nat.reduceSub, Nat.reduceAdd, Nat.reduceMul]
    · unfold tg
      rw [← h1]
  · rintro f j ⟨⟨z1, z2⟩, M⟩ hj ⟨h1, h2⟩
    have h1 : (z1, z2) = itr (tgs A R σ (I q)) j (-1, 0) := h1
    have h2 : ∀ k, k ≠ t + 18 → k ≠ t + 19 → M k = I k := h2
    left
    show ∃ a', _ ∧ F_War_target_15B t q (F_War_target_15 t q f) (nI σ) (sd A (1 - σ) &&& I q 0) z1 z2 (nI j) M = _
    unfold F_War_target_15B
    by_cases hb : bt (sd A (1 - σ) &&& I q 0) j = true
    · have hjn : j < A 0 0 := by
        rw [b_and, bt_sd hw] at hb
        simp only [Bool.and_eq_true, decide_eq_true_eq] at hb
        exact hb.1.1
      obtain ⟨M', e1, e2⟩ := c_worth (q := q) hw hr (cA_fr hc h2) (rC_fr hR h2) hσ hjn q18 q19
      rw [h2 q q18 q19] at e1
      have h3 : ∀ k, k ≠ t + 18 → k ≠ t + 19 → M' k = I k := fun k a b => by rw [e2 k a b, h2 k a b]
      by_cases h4 : z1 = -1
      · refine ⟨((nI j, wo A R σ (I q) j), M'), ⟨?_, h3⟩, ?_⟩
        · rw [itr, ← h1]; unfold tgs; rw [if_pos hb, if_pos (Or.inl h4)]
        · simp (disch := omega) only [↓g_in, ↓g_c0, ↓g_c1, ↓reduceIte, y_lt, y_q1, y_q2, sn_q3, sn_t1l, sn_t1r, sn_t2l, sn_t2r, nI_clamp, x_leT, x_leF, x_ltT, x_ltF, x_eqT, x_eqF, x_le0T, x_le0F, x_0leT, x_lt0F, x_0ltT, x_0ltF, x_eq0T, x_eq0F, x_le1T, x_le1F, x_1leT, x_1leF, x_1ltT, x_1ltF, x_lt1T, x_lt1F, x_eq1T, x_eq1F, x_m1F, nI_add, nI_1, sn_mul, x_sub, x_sub1, sn_m1, l2, l3, l4, l5, l6, l7, l8, l9, l10, l11, l12, l13, l14, l15, l20, l30, l40, l48, l60, l64, l99, l100, l700, l999, not_true_eq_false, not_false_eq_true, x_t0, x_t1, lts1, x_10, x_1sub, eq_self, Nat.reduceSub, Nat.reduceAdd, Nat.reduceMul, hb, e1, h4, Bool.true_eq_false]
      · by_cases h5 : z2 < wo A R σ (I q) j
        · refine ⟨((nI j, wo A R σ (I q) j), M'), ⟨?_, h3⟩, ?_⟩
          · rw [itr, ← h1]; unfold tgs; rw [if_pos hb, if_pos (Or.inr h5)]
          · simp (disch := omega) only [↓g_in, ↓g_c0, ↓g_c1, ↓reduceIte, y_lt, y_q1, y_q2, sn_q3, sn_t1l, sn_t1r, sn_t2l, sn_t2r, nI_clamp, x_leT, x_leF, x_ltT, x_ltF, x_eqT, x_eqF, x_le0T, x_le0F, x_0leT, x_lt0F, x_0ltT, x_0ltF, x_eq0T, x_eq0F, x_le1T, x_le1F, x_1leT, x_1leF, x_1ltT, x_1ltF, x_lt1T, x_lt1F, x_eq1T, x_eq1F, x_m1F, nI_add, nI_1, sn_mul, x_sub, x_sub1, sn_m1, l2, l3, l4, l5, l6, l7, l8, l9, l10, l11, l12, l13, l14, l15, l20, l30, l40, l48, l60, l64, l99, l100, l700, l999, not_true_eq_false, not_false_eq_true, x_t0, x_t1, lts1, x_10, x_1sub, eq_self, Nat.reduceSub, Nat.reduceAdd, Nat.reduceMul, hb, e1, h4, Bool.true_eq_false, Int32.not_le.mpr h5]
        · refine ⟨((z1, z2), M'), ⟨?_, h3⟩, ?_⟩
          · rw [itr, ← h1]; unfold tgs; rw [if_pos hb, if_neg (fun z => z.elim h4 h5)]
          · simp (disch := omega) only [↓g_in, ↓g_c0, ↓g_c1, ↓reduceIte, y_lt, y_q1, y_q2, sn_q3, sn_t1l, sn_t1r, sn_t2l, sn_t2r, nI_clamp, x_leT, x_leF, x_ltT, x_ltF, x_eqT, x_eqF, x_le0T, x_le0F, x_0leT, x_lt0F, x_0ltT, x_0ltF, x_eq0T, x_eq0F, x_le1T, x_le1F, x_1leT, x_1leF, x_1ltT, x_1ltF, x_lt1T, x_lt1F, x_eq1T, x_eq1F, x_m1F, nI_add, nI_1, sn_mul, x_sub, x_sub1, sn_m1, l2, l3, l4, l5, l6, l7, l8, l9, l10, l11, l12, l13, l14, l15, l20, l30, l40, l48, l60, l64, l99, l100, l700, l999, not_true_eq_false, not_false_eq_true, x_t0, x_t1, lts1, x_10, x_1sub, eq_self, Nat.reduceSub, Nat.reduceAdd, Nat.reduceMul, hb, e1, h4, Bool.true_eq_false, Int32.not_lt.mp h5]
    · refine ⟨((z1, z2), M), ⟨?_, h2⟩, ?_⟩
      · rw [itr, ← h1]; unfold tgs; rw [if_neg hb]
      · have hb : bt (sd A (1 - σ) &&& I q 0) j = false := by simpa using hb
        simp (disch := omega) only [↓g_in, ↓g_c0, ↓g_c1, ↓reduceIte, y_lt, y_q1, y_q2, sn_q3, sn_t1l, sn_t1r, sn_t2l, sn_t2r, nI_clamp, x_leT, x_leF, x_ltT, x_ltF, x_eqT, x_eqF, x_le0T, x_le0F, x_0leT, x_lt0F, x_0ltT, x_0ltF, x_eq0T, x_eq0F, x_le1T, x_le1F, x_1leT, x_1leF, x_1ltT, x_1ltF, x_lt1T, x_lt1F, x_eq1T, x_eq1F, x_m1F, nI_add, nI_1, sn_mul, x_sub, x_sub1, sn_m1, l2, l3, l4, l5, l6, l7, l8, l9, l10, l11, l12, l13, l14, l15, l20, l30, l40, l48, l60, l64, l99, l100, l700, l999, not_true_eq_false, not_false_eq_true, x_t0, x_t1, lts1, x_10, x_1sub, eq_self, Nat.reduceSub, Nat.reduceAdd, Nat.reduceMul, hb]
theorem m_aims {A : sA} {R : Nat → List Nat} {p σ : Nat} {I : sm_MI} {c : Nat → Int32} (hw : wA A) (hr : rW R) (hm : mA A I) (hM : rM R I) (hs : stR (A 0 0) (I p) c) (hσ : σ < 2) (p1 : p ≠ 89) (p2 : p ≠ 90) :
    ∃ I', F_Mo_aims p (nI σ) I = some (tg A R σ c, I') ∧ ∀ k, k ≠ 89 → k ≠ 90 → I' k = I k := by
  have hn := hw.1
  unfold F_Mo_aims
  have lp := lp_R (fun f j (z : (Int32 × Int32) × sm_MI) => F_Mo_aims_6 p f (nI σ) z.1.1 z.1.2 j z.2) (fun j z => z.1 = itr (tgs A R σ c) j (-1, 0) ∧ ∀ k, k ≠ 89 → k ≠ 90 → z.2 k = I k) (fun b => b.1 = tg A R σ c ∧ ∀ k, k ≠ 89 → k ≠ 90 → b.2 k = I k) (A 0 0) ((-1, 0), I) ⟨rfl, fun _ _ _ => rfl⟩ (by omega) ?_ ?_
  · obtain ⟨b, e, hb⟩ := lp
    exact ⟨b.2, by rw [← hb.1]; exact e, hb.2⟩
  · rintro f ⟨⟨z1, z2⟩, M⟩ ⟨h1, h2⟩
    have h2 : ∀ k, k ≠ 89 → k ≠ 90 → M k = I k := h2
    refine ⟨(z1, M), ?_, ?_, h2⟩
    · show F_Mo_aims_6B p (F_Mo_aims_6 p f) (nI σ) z1 z2 (nI (A 0 0)) M = _
      unfold F_Mo_aims_6B
      rw [h2 61 (by omega) (by omega)]
      simp (disch := omega) only [↓g_in, ↓g_c0, ↓g_c1, ↓reduceIte, y_lt, y_q1, y_q2, sn_q3, sn_t1l, sn_t1r, sn_t2l, sn_t2r, nI_clamp, x_leT, x_leF, x_ltT, x_ltF, x_eqT, x_eqF, x_le0T, x_le0F, x_0leT, x_lt0F, x_0ltT, x_0ltF, x_eq0T, x_eq0F, x_le1T, x_le1F, x_1leT, x_1leF, x_1ltT, x_1ltF, x_lt1T, x_lt1F, x_eq1T, x_eq1F, x_m1F, nI_add, nI_1, sn_mul, x_sub, x_sub1, sn_m1, l2, l3, l4, l5, l6, l7, l8, l9, l10, l11, l12, l13, l14, l15, l20, l30, l40, l48, l60, l64, l99, l100, l700, l999, not_true_eq_false, not_false_eq_true, x_t0, x_t1, lts1, x_10, x_1sub, eq_self, Nat.reduceSub, Nat.reduceAdd, Nat.reduceMul, hm.1]
    · unfold tg
      rw [itr_to (n := A 0 0) hn (fun j b h3 h4 => by unfold tgs; rw [b_and, (hs.1 j h3).1, Bool.and_false]; rfl), ← h1]
  · rintro f j ⟨⟨z1, z2⟩, M⟩ hj ⟨h1, h2⟩
    have h1 : (z1, z2) = itr (tgs A R σ c) j (-1, 0) := h1
    have h2 : ∀ k, k ≠ 89 → k ≠ 90 → M k = I k := h2
    left
    show ∃ a', _ ∧ F_Mo_aims_6B p (F_Mo_aims_6 p f) (nI σ) z1 z2 (nI j) M = _
    unfold F_Mo_aims_6B
    obtain ⟨d1, -⟩ := hm.2.2.2.1 j hj
    obtain ⟨g1, -⟩ := hw.2.2.2.2.1 j hj
    have hb := (stR_b hs hj).1
    rw [h2 61 (by omega) (by omega), h2 62 (by omega) (by omega), h2 p p1 p2]
    by_cases h0 : I p j = 0
    · by_cases h9 : A 1 j = 1 - σ
      · have hb2 : bt (sd A (1 - σ) &&& c 0) j = true := by rw [b_and, bt_sd hw, ← hb, decide_eq_true h0, decide_eq_true hj, decide_eq_true h9]; rfl
        obtain ⟨M', e1, e2⟩ := m_worth (p := p) (c := c) hw hr (mA_fr hm h2) (rM_fr hM h2) (by rw [h2 p p1 p2]; exact hs) hσ hj
        have h3 : ∀ k, k ≠ 89 → k ≠ 90 → M' k = I k := fun k a b => by rw [e2 k a b, h2 k a b]
        by_cases h4 : z1 = -1
        · refine ⟨((nI j, wo A R σ c j), M'), ⟨?_, h3⟩, ?_⟩
          · rw [itr, ← h1]; unfold tgs; rw [if_pos hb2, if_pos (Or.inl h4)]
          · simp (disch := omega) only [↓g_in, ↓g_c0, ↓g_c1, ↓reduceIte, y_lt, y_q1, y_q2, sn_q3, sn_t1l, sn_t1r, sn_t2l, sn_t2r, nI_clamp, x_leT, x_leF, x_ltT, x_ltF, x_eqT, x_eqF, x_le0T, x_le0F, x_0leT, x_lt0F, x_0ltT, x_0ltF, x_eq0T, x_eq0F, x_le1T, x_le1F, x_1leT, x_1leF, x_1ltT, x_1ltF, x_lt1T, x_lt1F, x_eq1T, x_eq1F, x_m1F, nI_add, nI_1, sn_mul, x_sub, x_sub1, sn_m1, l2, l3, l4, l5, l6, l7, l8, l9, l10, l11, l12, l13, l14, l15, l20, l30, l40, l48, l60, l64, l99, l100, l700, l999, not_true_eq_false, not_false_eq_true, x_t0, x_t1, lts1, x_10, x_1sub, eq_self, Nat.reduceSub, Nat.reduceAdd, Nat.reduceMul, hm.1, h0, d1, h9, e1, h4]
        · by_cases h5 : z2 < wo A R σ c j
          · refine ⟨((nI j, wo A R σ c j), M'), ⟨?_, h3⟩, ?_⟩
            · rw [itr, ← h1]; unfold tgs; rw [if_pos hb2, if_pos (Or.inr h5)]
            · simp (disch := omega) only [↓g_in, ↓g_c0, ↓g_c1, ↓reduceIte, y_lt, y_q1, y_q2, sn_q3, sn_t1l, sn_t1r, sn_t2l, sn_t2r, nI_clamp, x_leT, x_leF, x_ltT, x_ltF, x_eqT, x_eqF, x_le0T, x_le0F, x_0leT, x_lt0F, x_0ltT, x_0ltF, x_eq0T, x_eq0F, x_le1T, x_le1F, x_1leT, x_1leF, x_1ltT, x_1ltF, x_lt1T, x_lt1F, x_eq1T, x_eq1F, x_m1F, nI_add, nI_1, sn_mul, x_sub, x_sub1, sn_m1, l2, l3, l4, l5, l6, l7, l8, l9, l10, l11, l12, l13, l14, l15, l20, l30, l40, l48, l60, l64, l99, l100, l700, l999, not_true_eq_false, not_false_eq_true, x_t0, x_t1, lts1, x_10, x_1sub, eq_self, Nat.reduceSub, Nat.reduceAdd, Nat.reduceMul, hm.1, h0, d1, h9, e1, h4, h5]
          · refine ⟨((z1, z2), M'), ⟨?_, h3⟩, ?_⟩
            · rw [itr, ← h1]; unfold tgs; rw [if_pos hb2, if_neg (fun z => z.elim h4 h5)]
            · simp (disch := omega) only [↓g_in, ↓g_c0, ↓g_c1, ↓reduceIte, y_lt, y_q1, y_q2, sn_q3, sn_t1l, sn_t1r, sn_t2l, sn_t2r, nI_clamp, x_leT, x_leF, x_ltT, x_ltF, x_eqT, x_eqF, x_le0T, x_le0F, x_0leT, x_lt0F, x_0ltT, x_0ltF, x_eq0T, x_eq0F, x_le1T, x_le1F, x_1leT, x_1leF, x_1ltT, x_1ltF, x_lt1T, x_lt1F, x_eq1T, x_eq1F, x_m1F, nI_add, nI_1, sn_mul, x_sub, x_sub1, sn_m1, l2, l3, l4, l5, l6, l7, l8, l9, l10, l11, l12, l13, l14, l15, l20, l30, l40, l48, l60, l64, l99, l100, l700, l999, not_true_eq_false, not_false_eq_true, x_t0, x_t1, lts1, x_10, x_1sub, eq_self, Nat.reduceSub, Nat.reduceAdd, Nat.reduceMul, hm.1, h0, d1, h9, e1, h4, h5]
      · refine ⟨((z1, z2), M), ⟨?_, h2⟩, ?_⟩
        · rw [itr, ← h1]; unfold tgs; rw [b_and, bt_sd hw, decide_eq_false h9, Bool.and_false, Bool.false_and]; rfl
        · simp (disch := omega) only [↓g_in, ↓g_c0, ↓g_c1, ↓reduceIte, y_lt, y_q1, y_q2, sn_q3, sn_t1l, sn_t1r, sn_t2l, sn_t2r, nI_clamp, x_leT, x_leF, x_ltT, x_ltF, x_eqT, x_eqF, x_le0T, x_le0F, x_0leT, x_lt0F, x_0ltT, x_0ltF, x_eq0T, x_eq0F, x_le1T, x_le1F, x_1leT, x_1leF, x_1ltT, x_1ltF, x_lt1T, x_lt1F, x_eq1T, x_eq1F, x_m1F, nI_add, nI_1, sn_mul, x_sub, x_sub1, sn_m1, l2, l3, l4, l5, l6, l7, l8, l9, l10, l11, l12, l13, l14, l15, l20, l30, l40, l48, l60, l64, l99, l100, l700, l999, not_true_eq_false, not_false_eq_true, x_t0, x_t1, lts1, x_10, x_1sub, eq_self, Nat.reduceSub, Nat.reduceAdd, Nat.reduceMul, hm.1, h0, d1]
    · refine ⟨((z1, z2), M), ⟨?_, h2⟩, ?_⟩
      · rw [itr, ← h1]; unfold tgs; rw [b_and, ← hb, decide_eq_false h0, Bool.and_false]; rfl
      · simp (disch := omega) only [↓g_in, ↓g_c0, ↓g_c1, ↓reduceIte, y_lt, y_q1, y_q2, sn_q3, sn_t1l, sn_t1r, sn_t2l, sn_t2r, nI_clamp, x_leT, x_leF, x_ltT, x_ltF, x_eqT, x_eqF, x_le0T, x_le0F, x_0leT, x_lt0F, x_0ltT, x_0ltF, x_eq0T, x_eq0F, x_le1T, x_le1F, x_1leT, x_1leF, x_1ltT, x_1ltF, x_lt1T, x_lt1F, x_eq1T, x_eq1F, x_m1F, nI_add, nI_1, sn_mul, x_sub, x_sub1, sn_m1, l2, l3, l4, l5, l6, l7, l8, l9, l10, l11, l12, l13, l14, l15, l20, l30, l40, l48, l60, l64, l99, l100, l700, l999, not_true_eq_false, not_false_eq_true, x_t0, x_t1, lts1, x_10, x_1sub, eq_self, Nat.reduceSub, Nat.reduceAdd, Nat.reduceMul, hm.1, h0]
