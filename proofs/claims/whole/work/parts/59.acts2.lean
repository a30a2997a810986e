/-! ===== catches, release, exchange, undo, days ===== -/
section AC
variable {A : sA} {R : Nat → List Nat} {t : Nat} {C M C' M' : sm_MI}
theorem x_catches (h : Rel A R t C M) (x : Int32) : ans A R t C M (F_VM_catches t x C) (F_Mo_catches x M) cv := by
  obtain ⟨M1, hM1, h0, h, hs⟩ := h.start
  have hw := h.wa
  have hn := hw.1
  unfold F_VM_catches F_Mo_catches
  rw [hM1]
  rcases ix_or x (n := A 0 0) (by omega) with hx | ⟨s, hs1, rfl⟩
  · refine ans_e (v := 0) (e := 1) (by rw [c_chS0 hw h.ca hx]; rfl) (by simp (disch := omega) only [↓g_in, ↓g_c0, ↓g_c1, ↓reduceIte, ↓y_lt, ↓y_q1, ↓y_q2, ↓sn_q3, ↓sn_t1l, ↓sn_t1r, ↓sn_t2l, ↓sn_t2r, y_q1, y_q2, sn_q3, sn_t1l, sn_t1r, sn_t2l, sn_t2r, nI_clamp, x_leT, x_leF, x_ltT, x_ltF, x_eqT, x_eqF, x_le0T, x_le0F, x_0leT, x_lt0F, x_0ltT, x_0ltF, x_eq0T, x_eq0F, x_le1T, x_le1F, x_1leT, x_1leF, x_1ltT, x_1ltF, x_lt1T, x_lt1F, x_eq1T, x_eq1F, x_m1F, nI_add, nI_1, sn_mul, x_sub, x_sub1, sn_m1, l2, l3, l4, l5, l6, l7, l8, l9, l10, l11, l12, l13, l14, l15, l20, l30, l40, l48, l60, l64, l99, l100, l700, l999, not_true_eq_false, not_false_eq_true, x_t0, x_t1, lts1, x_10, x_1sub, eq_self, Nat.reduceSub, Nat.reduceAdd, Nat.reduceMul, ↓q2_of (m_isS0 hw h.ma h0 hx)]) (h.onM (smM.up (by omega) smM.refl)) (fun _ _ => rfl) (fun k hk => by rw [up_n (by omega), hs.2.2 k hk]) rfl up_s
  · have h3 := st3 h.st hs1
    by_cases c0 : M1 86 s = 0
    · have b0 := h3.1.mp c0
      obtain ⟨C2, M2, k1, k2, k3, k4, k5, k6, k7⟩ := keep hn h.st h.ah
      have e9 : C2 9 = C 9 := k5 9 (by omega) (by omega)
      refine ans_v (r := .inl 1) (C' := sd_up (sd_up C2 9 0 (C2 9 0 &&& (b1 s ^^^ -1))) 9 1 (C2 9 1 ||| b1 s)) (M' := sd_up M2 86 s 1) ?_ ?_ (h.now k3 k4 k5 k6 k7 (fun k a _ _ => by rw [up_n a, up_n a]) (fun k a _ _ => up_n a) ?_) (fun k hk => by rw [up_n (by omega), up_n (by omega), k5 k (by omega) (by omega)]) (fun k hk => by rw [up_n (by omega), k7 k (by omega) (by omega), hs.2.2 k hk]) rfl (by rw [up_n (by omega), k6 0 (by omega)]; exact h0)
      · unfold F_VM_catches_18 F_State_seize
        simp (disch := omega) only [↓g_in, ↓g_c0, ↓g_c1, ↓reduceIte, ↓y_lt, ↓y_q1, ↓y_q2, ↓sn_q3, ↓sn_t1l, ↓sn_t1r, ↓sn_t2l, ↓sn_t2r, y_q1, y_q2, sn_q3, sn_t1l, sn_t1r, sn_t2l, sn_t2r, nI_clamp, x_leT, x_leF, x_ltT, x_ltF, x_eqT, x_eqF, x_le0T, x_le0F, x_0leT, x_lt0F, x_0ltT, x_0ltF, x_eq0T, x_eq0F, x_le1T, x_le1F, x_1leT, x_1leF, x_1ltT, x_1ltF, x_lt1T, x_lt1F, x_eq1T, x_eq1F, x_m1F, nI_add, nI_1, sn_mul, x_sub, x_sub1, sn_m1, l2, l3, l4, l5, l6, l7, l8, l9, l10, l11, l12, l13, l14, l15, l20, l30, l40, l48, l60, l64, l99, l100, l700, l999, not_true_eq_false, not_false_eq_true, x_t0, x_t1, lts1, x_10, x_1sub, eq_self, Nat.reduceSub, Nat.reduceAdd, Nat.reduceMul, ↓t1_of (c_chS1 hw h.ca hs1), bs0, b0, Bool.true_eq_false, ↓q2_of (c_may1 k1), up_m]
      · have := m_be1 (y := 1) (show s < 16 by omega) c0 k2
        simp (disch := omega) only [↓g_in, ↓g_c0, ↓g_c1, ↓reduceIte, ↓y_lt, ↓y_q1, ↓y_q2, ↓sn_q3, ↓sn_t1l, ↓sn_t1r, ↓sn_t2l, ↓sn_t2r, y_q1, y_q2, sn_q3, sn_t1l, sn_t1r, sn_t2l, sn_t2r, nI_clamp, x_leT, x_leF, x_ltT, x_ltF, x_eqT, x_eqF, x_le0T, x_le0F, x_0leT, x_lt0F, x_0ltT, x_0ltF, x_eq0T, x_eq0F, x_le1T, x_le1F, x_1leT, x_1leF, x_1ltT, x_1ltF, x_lt1T, x_lt1F, x_eq1T, x_eq1F, x_m1F, nI_add, nI_1, sn_mul, x_sub, x_sub1, sn_m1, l2, l3, l4, l5, l6, l7, l8, l9, l10, l11, l12, l13, l14, l15, l20, l30, l40, l48, l60, l64, l99, l100, l700, l999, not_true_eq_false, not_false_eq_true, x_t0, x_t1, lts1, x_10, x_1sub, eq_self, Nat.reduceSub, Nat.reduceAdd, Nat.reduceMul, ↓q2_of (m_isS1 hw h.ma h0 hs1), ↓q2_of this]
      · have ec : ∀ j, (sd_up (sd_up C2 9 0 (C2 9 0 &&& (b1 s ^^^ -1))) 9 1 (C2 9 1 ||| b1 s)) 9 j = if j = 0 then C 9 0 &&& (b1 s ^^^ -1) else if j = 1 then C 9 1 ||| b1 s else C 9 j := fun j => by
          by_cases e0 : j = 0
          · subst e0; rw [up_m (by omega), up_s, e9, if_pos rfl]
          · by_cases e2 : j = 1
            · subst e2; rw [up_s, e9, if_neg e0, if_pos rfl]
            · rw [up_m e2, up_m e0, e9, if_neg e0, if_neg e2]
        refine stR_set hn hs1 h.st (fun q hq => by rw [up_m hq, k7 86 (by omega) (by omega)]) (fun q hq h32 => ?_) (by rw [ec]; rfl) (by rw [ec]; rfl) (Or.inr (Or.inl ⟨up_s, ?_, ?_, ?_⟩))
        · rw [ec 0, ec 1, ec 2]
          refine ⟨?_, ?_, rfl⟩
          · show bt (C 9 0 &&& (b1 s ^^^ -1)) q = _
            rw [bt_n1 (by omega) h32, decide_eq_false (fun z => hq z.symm)]; simp
          · show bt (C 9 1 ||| b1 s) q = _
            rw [bt_or1 (by omega) h32, decide_eq_false (fun z => hq z.symm), Bool.or_false]
        · rw [ec 0]
          show bt (C 9 0 &&& (b1 s ^^^ -1)) s = false
          rw [bt_n1 (by omega) (by omega), decide_eq_true rfl]; simp
        · rw [ec 1]
          show bt (C 9 1 ||| b1 s) s = true
          rw [bt_or1 (by omega) (by omega), decide_eq_true rfl, Bool.or_true]
        · rw [ec 2]
          show bt (C 9 2) s = false
          rcases h.st.2.1 s hs1 with ⟨_, _, _, b⟩ | ⟨_, a, _, _⟩ | ⟨_, a, _, _⟩
          · exact b
          · rw [a] at b0; cases b0
          · rw [a] at b0; cases b0
    · have b0 : bt (C 9 0) s = false := by
        cases e : bt (C 9 0) s
        · rfl
        · exact absurd (h3.1.mpr e) c0
      refine ans_v (r := .inl 0) ?_ ?_ (h.ref (q := 1) (by omega)) (fun k hk => up_n (by omega)) (fun k hk => by rw [up_n (by omega), hs.2.2 k hk]) rfl (by rw [up_n (by omega)]; exact h0)
      · unfold F_VM_catches_18
        simp (disch := omega) only [↓g_in, ↓g_c0, ↓g_c1, ↓reduceIte, ↓y_lt, ↓y_q1, ↓y_q2, ↓sn_q3, ↓sn_t1l, ↓sn_t1r, ↓sn_t2l, ↓sn_t2r, y_q1, y_q2, sn_q3, sn_t1l, sn_t1r, sn_t2l, sn_t2r, nI_clamp, x_leT, x_leF, x_ltT, x_ltF, x_eqT, x_eqF, x_le0T, x_le0F, x_0leT, x_lt0F, x_0ltT, x_0ltF, x_eq0T, x_eq0F, x_le1T, x_le1F, x_1leT, x_1leF, x_1ltT, x_1ltF, x_lt1T, x_lt1F, x_eq1T, x_eq1F, x_m1F, nI_add, nI_1, sn_mul, x_sub, x_sub1, sn_m1, l2, l3, l4, l5, l6, l7, l8, l9, l10, l11, l12, l13, l14, l15, l20, l30, l40, l48, l60, l64, l99, l100, l700, l999, not_true_eq_false, not_false_eq_true, x_t0, x_t1, lts1, x_10, x_1sub, eq_self, Nat.reduceSub, Nat.reduceAdd, Nat.reduceMul, ↓t1_of (c_chS1 hw h.ca hs1), bs0, b0, ↓q2_of c_may0]
      · have := m_be0 (y := 1) h0 (show s < 16 by omega) c0
        simp (disch := omega) only [↓g_in, ↓g_c0, ↓g_c1, ↓reduceIte, ↓y_lt, ↓y_q1, ↓y_q2, ↓sn_q3, ↓sn_t1l, ↓sn_t1r, ↓sn_t2l, ↓sn_t2r, y_q1, y_q2, sn_q3, sn_t1l, sn_t1r, sn_t2l, sn_t2r, nI_clamp, x_leT, x_leF, x_ltT, x_ltF, x_eqT, x_eqF, x_le0T, x_le0F, x_0leT, x_lt0F, x_0ltT, x_0ltF, x_eq0T, x_eq0F, x_le1T, x_le1F, x_1leT, x_1leF, x_1ltT, x_1ltF, x_lt1T, x_lt1F, x_eq1T, x_eq1F, x_m1F, nI_add, nI_1, sn_mul, x_sub, x_sub1, sn_m1, l2, l3, l4, l5, l6, l7, l8, l9, l10, l11, l12, l13, l14, l15, l20, l30, l40, l48, l60, l64, l99, l100, l700, l999, not_true_eq_false, not_false_eq_true, x_t0, x_t1, lts1, x_10, x_1sub, eq_self, Nat.reduceSub, Nat.reduceAdd, Nat.reduceMul, ↓q2_of (m_isS1 hw h.ma h0 hs1), ↓q2_of this]
theorem x_release (h : Rel A R t C M) (x : Int32) : ans A R t C M (F_VM_release t x C) (F_Mo_release x M) cv := by
  obtain ⟨M1, hM1, h0, h, hs⟩ := h.start
  have hw := h.wa
  have hn := hw.1
  unfold F_VM_release F_Mo_release
  rw [hM1]
  rcases ix_or x (n := A 0 0) (by omega) with hx | ⟨s, hs1, rfl⟩
  · refine ans_e (v := 0) (e := 1) (by rw [c_chS0 hw h.ca hx]; rfl) (by simp (disch := omega) only [↓g_in, ↓g_c0, ↓g_c1, ↓reduceIte, ↓y_lt, ↓y_q1, ↓y_q2, ↓sn_q3, ↓sn_t1l, ↓sn_t1r, ↓sn_t2l, ↓sn_t2r, y_q1, y_q2, sn_q3, sn_t1l, sn_t1r, sn_t2l, sn_t2r, nI_clamp, x_leT, x_leF, x_ltT, x_ltF, x_eqT, x_eqF, x_le0T, x_le0F, x_0leT, x_lt0F, x_0ltT, x_0ltF, x_eq0T, x_eq0F, x_le1T, x_le1F, x_1leT, x_1leF, x_1ltT, x_1ltF, x_lt1T, x_lt1F, x_eq1T, x_eq1F, x_m1F, nI_add, nI_1, sn_mul, x_sub, x_sub1, sn_m1, l2, l3, l4, l5, l6, l7, l8, l9, l10, l11, l12, l13, l14, l15, l20, l30, l40, l48, l60, l64, l99, l100, l700, l999, not_true_eq_false, not_false_eq_true, x_t0, x_t1, lts1, x_10, x_1sub, eq_self, Nat.reduceSub, Nat.reduceAdd, Nat.reduceMul, ↓q2_of (m_isS0 hw h.ma h0 hx)]) (h.onM (smM.up (by omega) smM.refl)) (fun _ _ => rfl) (fun k hk => by rw [up_n (by omega), hs.2.2 k hk]) rfl up_s
  · have h3 := st3 h.st hs1
    by_cases c0 : M1 86 s = 1
    · have b0 := h3.2.mp c0
      obtain ⟨C2, M2, k1, k2, k3, k4, k5, k6, k7⟩ := keep hn h.st h.ah
      have e9 : C2 9 = C 9 := k5 9 (by omega) (by omega)
      refine ans_v (r := .inl 1) (C' := sd_up (sd_up C2 9 1 (C2 9 1 &&& (b1 s ^^^ -1))) 9 0 (C2 9 0 ||| b1 s)) (M' := sd_up M2 86 s 0) ?_ ?_ (h.now k3 k4 k5 k6 k7 (fun k a _ _ => by rw [up_n a, up_n a]) (fun k a _ _ => up_n a) ?_) (fun k hk => by rw [up_n (by omega), up_n (by omega), k5 k (by omega) (by omega)]) (fun k hk => by rw [up_n (by omega), k7 k (by omega) (by omega), hs.2.2 k hk]) rfl (by rw [up_n (by omega), k6 0 (by omega)]; exact h0)
      · unfold F_VM_release_18 F_State_letGo
        simp (disch := omega) only [↓g_in, ↓g_c0, ↓g_c1, ↓reduceIte, ↓y_lt, ↓y_q1, ↓y_q2, ↓sn_q3, ↓sn_t1l, ↓sn_t1r, ↓sn_t2l, ↓sn_t2r, y_q1, y_q2, sn_q3, sn_t1l, sn_t1r, sn_t2l, sn_t2r, nI_clamp, x_leT, x_leF, x_ltT, x_ltF, x_eqT, x_eqF, x_le0T, x_le0F, x_0leT, x_lt0F, x_0ltT, x_0ltF, x_eq0T, x_eq0F, x_le1T, x_le1F, x_1leT, x_1leF, x_1ltT, x_1ltF, x_lt1T, x_lt1F, x_eq1T, x_eq1F, x_m1F, nI_add, nI_1, sn_mul, x_sub, x_sub1, sn_m1, l2, l3, l4, l5, l6, l7, l8, l9, l10, l11, l12, l13, l14, l15, l20, l30, l40, l48, l60, l64, l99, l100, l700, l999, not_true_eq_false, not_false_eq_true, x_t0, x_t1, lts1, x_10, x_1sub, eq_self, Nat.reduceSub, Nat.reduceAdd, Nat.reduceMul, ↓t1_of (c_chS1 hw h.ca hs1), bs0, b0, Bool.true_eq_false, ↓q2_of (c_may1 k1), up_m]
      · have := m_be1 (y := 0) (show s < 16 by omega) c0 k2
        simp (disch := omega) only [↓g_in, ↓g_c0, ↓g_c1, ↓reduceIte, ↓y_lt, ↓y_q1, ↓y_q2, ↓sn_q3, ↓sn_t1l, ↓sn_t1r, ↓sn_t2l, ↓sn_t2r, y_q1, y_q2, sn_q3, sn_t1l, sn_t1r, sn_t2l, sn_t2r, nI_clamp, x_leT, x_leF, x_ltT, x_ltF, x_eqT, x_eqF, x_le0T, x_le0F, x_0leT, x_lt0F, x_0ltT, x_0ltF, x_eq0T, x_eq0F, x_le1T, x_le1F, x_1leT, x_1leF, x_1ltT, x_1ltF, x_lt1T, x_lt1F, x_eq1T, x_eq1F, x_m1F, nI_add, nI_1, sn_mul, x_sub, x_sub1, sn_m1, l2, l3, l4, l5, l6, l7, l8, l9, l10, l11, l12, l13, l14, l15, l20, l30, l40, l48, l60, l64, l99, l100, l700, l999, not_true_eq_false, not_false_eq_true, x_t0, x_t1, lts1, x_10, x_1sub, eq_self, Nat.reduceSub, Nat.reduceAdd, Nat.reduceMul, ↓q2_of (m_isS1 hw h.ma h0 hs1), ↓q2_of this]
      · have ec : ∀ j, (sd_up (sd_up C2 9 1 (C2 9 1 &&& (b1 s ^^^ -1))) 9 0 (C2 9 0 ||| b1 s)) 9 j = if j = 1 then C 9 1 &&& (b1 s ^^^ -1) else if j = 0 then C 9 0 ||| b1 s else C 9 j := fun j => by
          by_cases e0 : j = 1
          · subst e0; rw [up_m (by omega), up_s, e9, if_pos rfl]
          · by_cases e2 : j = 0
            · subst e2; rw [up_s, e9, if_neg e0, if_pos rfl]
            · rw [up_m e2, up_m e0, e9, if_neg e0, if_neg e2]
        refine stR_set hn hs1 h.st (fun q hq => by rw [up_m hq, k7 86 (by omega) (by omega)]) (fun q hq h32 => ?_) (by rw [ec]; rfl) (by rw [ec]; rfl) (Or.inl ⟨up_s, ?_, ?_, ?_⟩)
        · rw [ec 0, ec 1, ec 2]
          refine ⟨?_, ?_, rfl⟩
          · show bt (C 9 0 ||| b1 s) q = _
            rw [bt_or1 (by omega) h32, decide_eq_false (fun z => hq z.symm), Bool.or_false]
          · show bt (C 9 1 &&& (b1 s ^^^ -1)) q = _
            rw [bt_n1 (by omega) h32, decide_eq_false (fun z => hq z.symm)]; simp
        · rw [ec 0]
          show bt (C 9 0 ||| b1 s) s = true
          rw [bt_or1 (by omega) (by omega), decide_eq_true rfl, Bool.or_true]
        · rw [ec 1]
          show bt (C 9 1 &&& (b1 s ^^^ -1)) s = false
          rw [bt_n1 (by omega) (by omega), decide_eq_true rfl]; simp
        · rw [ec 2]
          show bt (C 9 2) s = false
          rcases h.st.2.1 s hs1 with ⟨_, _, a, _⟩ | ⟨_, _, _, b⟩ | ⟨_, _, a, _⟩
          · rw [a] at b0; cases b0
          · exact b
          · rw [a] at b0; cases b0
    · have b0 : bt (C 9 1) s = false := by
        cases e : bt (C 9 1) s
        · rfl
        · exact absurd (h3.2.mpr e) c0
      refine ans_v (r := .inl 0) ?_ ?_ (h.ref (q := 1) (by omega)) (fun k hk => up_n (by omega)) (fun k hk => by rw [up_n (by omega), hs.2.2 k hk]) rfl (by rw [up_n (by omega)]; exact h0)
      · unfold F_VM_release_18
        simp (disch := omega) only [↓g_in, ↓g_c0, ↓g_c1, ↓reduceIte, ↓y_lt, ↓y_q1, ↓y_q2, ↓sn_q3, ↓sn_t1l, ↓sn_t1r, ↓sn_t2l, ↓sn_t2r, y_q1, y_q2, sn_q3, sn_t1l, sn_t1r, sn_t2l, sn_t2r, nI_clamp, x_leT, x_leF, x_ltT, x_ltF, x_eqT, x_eqF, x_le0T, x_le0F, x_0leT, x_lt0F, x_0ltT, x_0ltF, x_eq0T, x_eq0F, x_le1T, x_le1F, x_1leT, x_1leF, x_1ltT, x_1ltF, x_lt1T, x_lt1F, x_eq1T, x_eq1F, x_m1F, nI_add, nI_1, sn_mul, x_sub, x_sub1, sn_m1, l2, l3, l4, l5, l6, l7, l8, l9, l10, l11, l12, l13, l14, l15, l20, l30, l40, l48, l60, l64, l99, l100, l700, l999, not_true_eq_false, not_false_eq_true, x_t0, x_t1, lts1, x_10, x_1sub, eq_self, Nat.reduceSub, Nat.reduceAdd, Nat.reduceMul, ↓t1_of (c_chS1 hw h.ca hs1), bs0, b0, ↓q2_of c_may0]
      · have := m_be0 (y := 0) h0 (show s < 16 by omega) c0
        simp (disch := omega) only [↓g_in, ↓g_c0, ↓g_c1, ↓reduceIte, ↓y_lt, ↓y_q1, ↓y_q2, ↓sn_q3, ↓sn_t1l, ↓sn_t1r, ↓sn_t2l, ↓sn_t2r, y_q1, y_q2, sn_q3, sn_t1l, sn_t1r, sn_t2l, sn_t2r, nI_clamp, x_leT, x_leF, x_ltT, x_ltF, x_eqT, x_eqF, x_le0T, x_le0F, x_0leT, x_lt0F, x_0ltT, x_0ltF, x_eq0T, x_eq0F, x_le1T, x_le1F, x_1leT, x_1leF, x_1ltT, x_1ltF, x_lt1T, x_lt1F, x_eq1T, x_eq1F, x_m1F, nI_add, nI_1, sn_mul, x_sub, x_sub1, sn_m1, l2, l3, l4, l5, l6, l7, l8, l9, l10, l11, l12, l13, l14, l15, l20, l30, l40, l48, l60, l64, l99, l100, l700, l999, not_true_eq_false, not_false_eq_true, x_t0, x_t1, lts1, x_10, x_1sub, eq_self, Nat.reduceSub, Nat.reduceAdd, Nat.reduceMul, ↓q2_of (m_isS1 hw h.ma h0 hs1), ↓q2_of this]
theorem x_exchange (h : Rel A R t C M) (x y : Int32) : ans A R t C M (F_VM_exchange t x y C) (F_Mo_exchange x y M) cv := by
  obtain ⟨M1, hM1, h0, h, hs⟩ := h.start
  have hw := h.wa
  have hn := hw.1
  unfold F_VM_exchange F_Mo_exchange
  rw [hM1]
  rcases ix_or x (n := A 0 0) (by omega) with hx | ⟨a, ha, rfl⟩
  · refine ans_e (v := 0) (e := 1) (by rw [c_chS0 hw h.ca hx]; rfl) (by simp (disch := omega) only [↓g_in, ↓g_c0, ↓g_c1, ↓reduceIte, ↓y_lt, ↓y_q1, ↓y_q2, ↓sn_q3, ↓sn_t1l, ↓sn_t1r, ↓sn_t2l, ↓sn_t2r, y_q1, y_q2, sn_q3, sn_t1l, sn_t1r, sn_t2l, sn_t2r, nI_clamp, x_leT, x_leF, x_ltT, x_ltF, x_eqT, x_eqF, x_le0T, x_le0F, x_0leT, x_lt0F, x_0ltT, x_0ltF, x_eq0T, x_eq0F, x_le1T, x_le1F, x_1leT, x_1leF, x_1ltT, x_1ltF, x_lt1T, x_lt1F, x_eq1T, x_eq1F, x_m1F, nI_add, nI_1, sn_mul, x_sub, x_sub1, sn_m1, l2, l3, l4, l5, l6, l7, l8, l9, l10, l11, l12, l13, l14, l15, l20, l30, l40, l48, l60, l64, l99, l100, l700, l999, not_true_eq_false, not_false_eq_true, x_t0, x_t1, lts1, x_10, x_1sub, eq_self, Nat.reduceSub, Nat.reduceAdd, Nat.reduceMul, ↓q2_of (m_isS0 hw h.ma h0 hx)]) (h.onM (smM.up (by omega) smM.refl)) (fun _ _ => rfl) (fun k hk => by rw [up_n (by omega), hs.2.2 k hk]) rfl up_s
  · rcases ix_or y (n := A 0 0) (by omega) with hy | ⟨b, hb, rfl⟩
    · refine ans_e (r := .inr 1) (C' := C) (v := 0) (e := 1) (by simp (disch := omega) only [↓g_in, ↓g_c0, ↓g_c1, ↓reduceIte, ↓y_lt, ↓y_q1, ↓y_q2, ↓sn_q3, ↓sn_t1l, ↓sn_t1r, ↓sn_t2l, ↓sn_t2r, y_q1, y_q2, sn_q3, sn_t1l, sn_t1r, sn_t2l, sn_t2r, nI_clamp, x_leT, x_leF, x_ltT, x_ltF, x_eqT, x_eqF, x_le0T, x_le0F, x_0leT, x_lt0F, x_0ltT, x_0ltF, x_eq0T, x_eq0F, x_le1T, x_le1F, x_1leT, x_1leF, x_1ltT, x_1ltF, x_lt1T, x_lt1F, x_eq1T, x_eq1F, x_m1F, nI_add, nI_1, sn_mul, x_sub, x_sub1, sn_m1, l2, l3, l4, l5, l6, l7, l8, l9, l10, l11, l12, l13, l14, l15, l20, l30, l40, l48, l60, l64, l99, l100, l700, l999, not_true_eq_false, not_false_eq_true, x_t0, x_t1, lts1, x_10, x_1sub, eq_self, Nat.reduceSub, Nat.reduceAdd, Nat.reduceMul, ↓t1_of (c_chS1 hw h.ca ha), ↓t1_er (c_chS0 hw h.ca hy)]) (by simp (disch := omega) only [↓g_in, ↓g_c0, ↓g_c1, ↓reduceIte, ↓y_lt, ↓y_q1, ↓y_q2, ↓sn_q3, ↓sn_t1l, ↓sn_t1r, ↓sn_t2l, ↓sn_t2r, y_q1, y_q2, sn_q3, sn_t1l, sn_t1r, sn_t2l, sn_t2r, nI_clamp, x_leT, x_leF, x_ltT, x_ltF, x_eqT, x_eqF, x_le0T, x_le0F, x_0leT, x_lt0F, x_0ltT, x_0ltF, x_eq0T, x_eq0F, x_le1T, x_le1F, x_1leT, x_1leF, x_1ltT, x_1ltF, x_lt1T, x_lt1F, x_eq1T, x_eq1F, x_m1F, nI_add, nI_1, sn_mul, x_sub, x_sub1, sn_m1, l2, l3, l4, l5, l6, l7, l8, l9, l10, l11, l12, l13, l14, l15, l20, l30, l40, l48, l60, l64, l99, l100, l700, l999, not_true_eq_false, not_false_eq_true, x_t0, x_t1, lts1, x_10, x_1sub, eq_self, Nat.reduceSub, Nat.reduceAdd, Nat.reduceMul, ↓q2_of (m_isS1 hw h.ma h0 ha), ↓q2_of (m_isS0 hw h.ma h0 hy)]) (h.onM (smM.up (by omega) smM.refl)) (fun _ _ => rfl) (fun k hk => by rw [up_n (by omega), hs.2.2 k hk]) rfl up_s
    · have s0 : F_Valley_ofSide t 0 C = some (sd A 0) := c_ofSide' (k := 0) h.ca (by omega)
      have s1 : F_Valley_ofSide t 1 C = some (sd A 1) := c_ofSide' (k := 1) h.ca (by omega)
      obtain ⟨d1, -⟩ := h.ma.2.2.2.1 a ha
      obtain ⟨d2, -⟩ := h.ma.2.2.2.1 b hb
      obtain ⟨g1, -⟩ := hw.2.2.2.2.1 a ha
      obtain ⟨g2, -⟩ := hw.2.2.2.2.1 b hb
      have h3 := (st3 h.st ha).2
      have h4 := (st3 h.st hb).2
      have z1 : bt (sd A 0 &&& C 9 1) a = (decide (A 1 a = 0) && bt (C 9 1) a) := by rw [b_and, bt_sd hw, decide_eq_true ha, Bool.true_and]
      have z2 : bt (sd A 1 &&& C 9 1) b = (decide (A 1 b = 1) && bt (C 9 1) b) := by rw [b_and, bt_sd hw, decide_eq_true hb, Bool.true_and]
      have hr := ref_m (M := M1) h0 (q := 1) (by omega)
      have hr : F_Mo_refuses 1 M1 = some (-1, sd_up M1 73 1 (M1 73 1 + 1)) := hr
      have m36 : F_Mo_exchange_36 M1 = some (0, sd_up M1 73 1 (M1 73 1 + 1)) := by
        unfold F_Mo_exchange_36
        rw [hr, sn_q2, if_pos (by decide)]
      have no : F_VM_exchange_36 t (nI a) (nI b) 0 C = some (.inl 0, sd_up C 1 1 (C 1 1 + 1)) := by
        unfold F_VM_exchange_36
        rw [c_may0, sn_q2, if_neg (sn_nn rfl)]
      have rej : ∀ {o : Option ((Int32 ⊕ Nat) × sm_MI)} {m : Option (Int32 × sm_MI)}, o = some (.inl 0, sd_up C 1 1 (C 1 1 + 1)) → m = some (0, sd_up M1 73 1 (M1 73 1 + 1)) → ans A R t C M o m cv := fun ho hm =>
        ans_v (r := .inl 0) ho hm (h.ref (q := 1) (by omega)) (fun k hk => up_n (by omega)) (fun k hk => by rw [up_n (by omega), hs.2.2 k hk]) rfl (by rw [up_n (by omega)]; exact h0)
      by_cases c1 : A 1 a = 0
      · by_cases c3 : M1 86 a = 1
        · have b3 := h3.mp c3
          have z1' : bt (sd A 0 &&& C 9 1) a = true := by rw [z1, b3, decide_eq_true c1]; rfl
          by_cases c2 : A 1 b = 1
          · by_cases c4 : M1 86 b = 1
            · have b4 := h4.mp c4
              have z2' : bt (sd A 1 &&& C 9 1) b = true := by rw [z2, b4, decide_eq_true c2]; rfl
              have hab : a ≠ b := fun e => by subst e; omega
              obtain ⟨C2, M2, k1, k2, k3, k4, k5, k6, k7⟩ := keep hn h.st h.ah
              have e9 : C2 9 = C 9 := k5 9 (by omega) (by omega)
              refine ans_v (r := .inl 1) (C' := sd_up (sd_up C2 9 1 (C2 9 1 &&& ((b1 a ||| b1 b) ^^^ -1))) 9 0 (C2 9 0 ||| (b1 a ||| b1 b))) (M' := sd_up (sd_up M2 86 a 0) 86 b 0) ?_ ?_ (h.now k3 k4 k5 k6 k7 (fun k a _ _ => by rw [up_n a, up_n a]) (fun k a _ _ => by rw [up_n a, up_n a]) ?_) (fun k hk => by rw [up_n (by omega), up_n (by omega), k5 k (by omega) (by omega)]) (fun k hk => by rw [up_n (by omega), up_n (by omega), k7 k (by omega) (by omega), hs.2.2 k hk]) rfl (by rw [up_n (by omega), up_n (by omega), k6 0 (by omega)]; exact h0)
              · unfold F_VM_exchange_36 F_State_letGo
                simp (disch := omega) only [↓g_in, ↓g_c0, ↓g_c1, ↓reduceIte, ↓y_lt, ↓y_q1, ↓y_q2, ↓sn_q3, ↓sn_t1l, ↓sn_t1r, ↓sn_t2l, ↓sn_t2r, y_q1, y_q2, sn_q3, sn_t1l, sn_t1r, sn_t2l, sn_t2r, nI_clamp, x_leT, x_leF, x_ltT, x_ltF, x_eqT, x_eqF, x_le0T, x_le0F, x_0leT, x_lt0F, x_0ltT, x_0ltF, x_eq0T, x_eq0F, x_le1T, x_le1F, x_1leT, x_1leF, x_1ltT, x_1ltF, x_lt1T, x_lt1F, x_eq1T, x_eq1F, x_m1F, nI_add, nI_1, sn_mul, x_sub, x_sub1, sn_m1, l2, l3, l4, l5, l6, l7, l8, l9, l10, l11, l12, l13, l14, l15, l20, l30, l40, l48, l60, l64, l99, l100, l700, l999, not_true_eq_false, not_false_eq_true, x_t0, x_t1, lts1, x_10, x_1sub, eq_self, Nat.reduceSub, Nat.reduceAdd, Nat.reduceMul, ↓t1_of (c_chS1 hw h.ca ha), ↓t1_of (c_chS1 hw h.ca hb), ↓q1_of s0, ↓q1_of s1, bs0, z1', z2', Bool.true_eq_false, ↓q2_of (c_may1 k1), up_m]
              · simp (disch := omega) only [↓g_in, ↓g_c0, ↓g_c1, ↓reduceIte, ↓y_lt, ↓y_q1, ↓y_q2, ↓sn_q3, ↓sn_t1l, ↓sn_t1r, ↓sn_t2l, ↓sn_t2r, y_q1, y_q2, sn_q3, sn_t1l, sn_t1r, sn_t2l, sn_t2r, nI_clamp, x_leT, x_leF, x_ltT, x_ltF, x_eqT, x_eqF, x_le0T, x_le0F, x_0leT, x_lt0F, x_0ltT, x_0ltF, x_eq0T, x_eq0F, x_le1T, x_le1F, x_1leT, x_1leF, x_1ltT, x_1ltF, x_lt1T, x_lt1F, x_eq1T, x_eq1F, x_m1F, nI_add, nI_1, sn_mul, x_sub, x_sub1, sn_m1, l2, l3, l4, l5, l6, l7, l8, l9, l10, l11, l12, l13, l14, l15, l20, l30, l40, l48, l60, l64, l99, l100, l700, l999, not_true_eq_false, not_false_eq_true, x_t0, x_t1, lts1, x_10, x_1sub, eq_self, Nat.reduceSub, Nat.reduceAdd, Nat.reduceMul, ↓q2_of (m_isS1 hw h.ma h0 ha), ↓q2_of (m_isS1 hw h.ma h0 hb), d1, d2, c1, c2, c3, c4, ↓q1_of k2]
              · have ec : ∀ j, (sd_up (sd_up C2 9 1 (C2 9 1 &&& ((b1 a ||| b1 b) ^^^ -1))) 9 0 (C2 9 0 ||| (b1 a ||| b1 b))) 9 j = if j = 1 then C 9 1 &&& ((b1 a ||| b1 b) ^^^ -1) else if j = 0 then C 9 0 ||| (b1 a ||| b1 b) else C 9 j := fun j => by
                  by_cases e0 : j = 1
                  · subst e0; rw [up_m (by omega), up_s, e9, if_pos rfl]
                  · by_cases e2 : j = 0
                    · subst e2; rw [up_s, e9, if_neg e0, if_pos rfl]
                    · rw [up_m e2, up_m e0, e9, if_neg e0, if_neg e2]
                have bo2 : ∀ q, q < 32 → bt (b1 a ||| b1 b) q = (decide (a = q) || decide (b = q)) := fun q hq => by rw [b_or, bt_b1 (by omega) hq, bt_b1 (by omega) hq]
                have st := h.st
                obtain ⟨a1, a2, a3, a4⟩ := st
                have m86 : ∀ q, sd_up (sd_up M2 86 a 0) 86 b 0 86 q = if q = b then 0 else if q = a then 0 else M1 86 q := fun q => by
                  by_cases e1 : q = b
                  · subst e1; rw [up_s, if_pos rfl]
                  · rw [up_m e1, if_neg e1]
                    by_cases e2 : q = a
                    · subst e2; rw [up_s, if_pos rfl]
                    · rw [up_m e2, if_neg e2, k7 86 (by omega) (by omega)]
                have c0 : ∀ q, q < 32 → bt ((sd_up (sd_up C2 9 1 (C2 9 1 &&& ((b1 a ||| b1 b) ^^^ -1))) 9 0 (C2 9 0 ||| (b1 a ||| b1 b))) 9 0) q = (bt (C 9 0) q || (decide (a = q) || decide (b = q))) := fun q hq => by
                  rw [ec 0]
                  show bt (C 9 0 ||| (b1 a ||| b1 b)) q = _
                  rw [b_or, bo2 q hq]
                have c1' : ∀ q, q < 32 → bt ((sd_up (sd_up C2 9 1 (C2 9 1 &&& ((b1 a ||| b1 b) ^^^ -1))) 9 0 (C2 9 0 ||| (b1 a ||| b1 b))) 9 1) q = (bt (C 9 1) q && !(decide (a = q) || decide (b = q))) := fun q hq => by
                  rw [ec 1]
                  show bt (C 9 1 &&& ((b1 a ||| b1 b) ^^^ -1)) q = _
                  rw [b_and, bt_not hq, bo2 q hq]
                refine ⟨fun i hi => ?_, fun q hq => ?_, ?_, ?_⟩
                · by_cases h32 : i < 32
                  · rw [c0 i h32, c1' i h32, ec 2, decide_eq_false (show ¬ a = i by omega), decide_eq_false (show ¬ b = i by omega)]
                    obtain ⟨q1, q2, q3⟩ := a1 i hi
                    refine ⟨by rw [q1]; rfl, by rw [q2]; rfl, q3⟩
                  · exact ⟨b_big (by omega), b_big (by omega), b_big (by omega)⟩
                · rw [m86, c0 q (by omega), c1' q (by omega), ec 2]
                  have e2 : (if (2 : Nat) = 1 then C 9 1 &&& ((b1 a ||| b1 b) ^^^ -1) else if (2 : Nat) = 0 then C 9 0 ||| (b1 a ||| b1 b) else C 9 2) = C 9 2 := rfl
                  rw [e2]
                  by_cases e1 : q = b
                  · subst e1
                    rw [if_pos rfl, decide_eq_true rfl, Bool.or_true, Bool.or_true]
                    left
                    refine ⟨rfl, rfl, by simp, ?_⟩
                    rcases a2 q hq with ⟨_, _, z, _⟩ | ⟨_, _, _, z⟩ | ⟨_, _, z, _⟩
                    · rw [z] at b4; cases b4
                    · exact z
                    · rw [z] at b4; cases b4
                  · by_cases e3 : q = a
                    · subst e3
                      rw [if_neg e1, if_pos rfl, decide_eq_true rfl, Bool.true_or, Bool.or_true]
                      left
                      refine ⟨rfl, rfl, by simp, ?_⟩
                      rcases a2 q hq with ⟨_, _, z, _⟩ | ⟨_, _, _, z⟩ | ⟨_, _, z, _⟩
                      · rw [z] at b3; cases b3
                      · exact z
                      · rw [z] at b3; cases b3
                    · rw [if_neg e1, if_neg e3, decide_eq_false (fun z => e3 z.symm), decide_eq_false (fun z => e1 z.symm), Bool.or_false, Bool.or_false, Bool.not_false, Bool.and_true]
                      exact a2 q hq
                · rw [m86, if_neg (by omega), if_neg (by omega), ec 3]; exact a3
                · rw [m86, if_neg (by omega), if_neg (by omega), ec 4]; exact a4
            · have z2' : bt (sd A 1 &&& C 9 1) b = false := by
                rw [z2]
                cases e : bt (C 9 1) b
                · rw [Bool.and_false]
                · exact absurd (h4.mpr e) c4
              refine rej ?_ ?_
              · simp (disch := omega) only [↓g_in, ↓g_c0, ↓g_c1, ↓reduceIte, ↓y_lt, ↓y_q1, ↓y_q2, ↓sn_q3, ↓sn_t1l, ↓sn_t1r, ↓sn_t2l, ↓sn_t2r, y_q1, y_q2, sn_q3, sn_t1l, sn_t1r, sn_t2l, sn_t2r, nI_clamp, x_leT, x_leF, x_ltT, x_ltF, x_eqT, x_eqF, x_le0T, x_le0F, x_0leT, x_lt0F, x_0ltT, x_0ltF, x_eq0T, x_eq0F, x_le1T, x_le1F, x_1leT, x_1leF, x_1ltT, x_1ltF, x_lt1T, x_lt1F, x_eq1T, x_eq1F, x_m1F, nI_add, nI_1, sn_mul, x_sub, x_sub1, sn_m1, l2, l3, l4, l5, l6, l7, l8, l9, l10, l11, l12, l13, l14, l15, l20, l30, l40, l48, l60, l64, l99, l100, l700, l999, not_true_eq_false, not_false_eq_true, x_t0, x_t1, lts1, x_10, x_1sub, eq_self, Nat.reduceSub, Nat.reduceAdd, Nat.reduceMul, ↓t1_of (c_chS1 hw h.ca ha), ↓t1_of (c_chS1 hw h.ca hb), ↓q1_of s0, ↓q1_of s1, bs0, z1', z2', Bool.true_eq_false, no]
              · simp (disch := omega) only [↓g_in, ↓g_c0, ↓g_c1, ↓reduceIte, ↓y_lt, ↓y_q1, ↓y_q2, ↓sn_q3, ↓sn_t1l, ↓sn_t1r, ↓sn_t2l, ↓sn_t2r, y_q1, y_q2, sn_q3, sn_t1l, sn_t1r, sn_t2l, sn_t2r, nI_clamp, x_leT, x_leF, x_ltT, x_ltF, x_eqT, x_eqF, x_le0T, x_le0F, x_0leT, x_lt0F, x_0ltT, x_0ltF, x_eq0T, x_eq0F, x_le1T, x_le1F, x_1leT, x_1leF, x_1ltT, x_1ltF, x_lt1T, x_lt1F, x_eq1T, x_eq1F, x_m1F, nI_add, nI_1, sn_mul, x_sub, x_sub1, sn_m1, l2, l3, l4, l5, l6, l7, l8, l9, l10, l11, l12, l13, l14, l15, l20, l30, l40, l48, l60, l64, l99, l100, l700, l999, not_true_eq_false, not_false_eq_true, x_t0, x_t1, lts1, x_10, x_1sub, eq_self, Nat.reduceSub, Nat.reduceAdd, Nat.reduceMul, ↓q2_of (m_isS1 hw h.ma h0 ha), ↓q2_of (m_isS1 hw h.ma h0 hb), d1, d2, c1, c2, c3, c4, m36]
          · have z2' : bt (sd A 1 &&& C 9 1) b = false := by rw [z2, decide_eq_false c2]; rfl
            refine rej ?_ ?_
            · simp (disch := omega) only [↓g_in, ↓g_c0, ↓g_c1, ↓reduceIte, ↓y_lt, ↓y_q1, ↓y_q2, ↓sn_q3, ↓sn_t1l, ↓sn_t1r, ↓sn_t2l, ↓sn_t2r, y_q1, y_q2, sn_q3, sn_t1l, sn_t1r, sn_t2l, sn_t2r, nI_clamp, x_leT, x_leF, x_ltT, x_ltF, x_eqT, x_eqF, x_le0T, x_le0F, x_0leT, x_lt0F, x_0ltT, x_0ltF, x_eq0T, x_eq0F, x_le1T, x_le1F, x_1leT, x_1leF, x_1ltT, x_1ltF, x_lt1T, x_lt1F, x_eq1T, x_eq1F, x_m1F, nI_add, nI_1, sn_mul, x_sub, x_sub1, sn_m1, l2, l3, l4, l5, l6, l7, l8, l9, l10, l11, l12, l13, l14, l15, l20, l30, l40, l48, l60, l64, l99, l100, l700, l999, not_true_eq_false, not_false_eq_true, x_t0, x_t1, lts1, x_10, x_1sub, eq_self, Nat.reduceSub, Nat.reduceAdd, Nat.reduceMul, ↓t1_of (c_chS1 hw h.ca ha), ↓t1_of (c_chS1 hw h.ca hb), ↓q1_of s0, ↓q1_of s1, bs0, z1', z2', Bool.true_eq_false, no]
            · simp (disch := omega) only [↓g_in, ↓g_c0, ↓g_c1, ↓reduceIte, ↓y_lt, ↓y_q1, ↓y_q2, ↓sn_q3, ↓sn_t1l, ↓sn_t1r, ↓sn_t2l, ↓sn_t2r, y_q1, y_q2, sn_q3, sn_t1l, sn_t1r, sn_t2l, sn_t2r, nI_clamp, x_leT, x_leF, x_ltT, x_ltF, x_eqT, x_eqF, x_le0T, x_le0F, x_0leT, x_lt0F, x_0ltT, x_0ltF, x_eq0T, x_eq0F, x_le1T, x_le1F, x_1leT, x_1leF, x_1ltT, x_1ltF, x_lt1T, x_lt1F, x_eq1T, x_eq1F, x_m1F, nI_add, nI_1, sn_mul, x_sub, x_sub1, sn_m1, l2, l3, l4, l5, l6, l7, l8, l9, l10, l11, l12, l13, l14, l15, l20, l30, l40, l48, l60, l64, l99, l100, l700, l999, not_true_eq_false, not_false_eq_true, x_t0, x_t1, lts1, x_10, x_1sub, eq_self, Nat.reduceSub, Nat.reduceAdd, Nat.reduceMul, ↓q2_of (m_isS1 hw h.ma h0 ha), ↓q2_of (m_isS1 hw h.ma h0 hb), d1, d2, c1, c2, m36]
        · have z1' : bt (sd A 0 &&& C 9 1) a = false := by
            rw [z1]
            cases e : bt (C 9 1) a
            · rw [Bool.and_false]
            · exact absurd (h3.mpr e) c3
          refine rej ?_ ?_
          · simp (disch := omega) only [↓g_in, ↓g_c0, ↓g_c1, ↓reduceIte, ↓y_lt, ↓y_q1, ↓y_q2, ↓sn_q3, ↓sn_t1l, ↓sn_t1r, ↓sn_t2l, ↓sn_t2r, y_q1, y_q2, sn_q3, sn_t1l, sn_t1r, sn_t2l, sn_t2r, nI_clamp, x_leT, x_leF, x_ltT, x_ltF, x_eqT, x_eqF, x_le0T, x_le0F, x_0leT, x_lt0F, x_0ltT, x_0ltF, x_eq0T, x_eq0F, x_le1T, x_le1F, x_1leT, x_1leF, x_1ltT, x_1ltF, x_lt1T, x_lt1F, x_eq1T, x_eq1F, x_m1F, nI_add, nI_1, sn_mul, x_sub, x_sub1, sn_m1, l2, l3, l4, l5, l6, l7, l8, l9, l10, l11, l12, l13, l14, l15, l20, l30, l40, l48, l60, l64, l99, l100, l700, l999, not_true_eq_false, not_false_eq_true, x_t0, x_t1, lts1, x_10, x_1sub, eq_self, Nat.reduceSub, Nat.reduceAdd, Nat.reduceMul, ↓t1_of (c_chS1 hw h.ca ha), ↓t1_of (c_chS1 hw h.ca hb), ↓q1_of s0, bs0, z1', no]
          · by_cases c2 : A 1 b = 1
            · simp (disch := omega) only [↓g_in, ↓g_c0, ↓g_c1, ↓reduceIte, ↓y_lt, ↓y_q1, ↓y_q2, ↓sn_q3, ↓sn_t1l, ↓sn_t1r, ↓sn_t2l, ↓sn_t2r, y_q1, y_q2, sn_q3, sn_t1l, sn_t1r, sn_t2l, sn_t2r, nI_clamp, x_leT, x_leF, x_ltT, x_ltF, x_eqT, x_eqF, x_le0T, x_le0F, x_0leT, x_lt0F, x_0ltT, x_0ltF, x_eq0T, x_eq0F, x_le1T, x_le1F, x_1leT, x_1leF, x_1ltT, x_1ltF, x_lt1T, x_lt1F, x_eq1T, x_eq1F, x_m1F, nI_add, nI_1, sn_mul, x_sub, x_sub1, sn_m1, l2, l3, l4, l5, l6, l7, l8, l9, l10, l11, l12, l13, l14, l15, l20, l30, l40, l48, l60, l64, l99, l100, l700, l999, not_true_eq_false, not_false_eq_true, x_t0, x_t1, lts1, x_10, x_1sub, eq_self, Nat.reduceSub, Nat.reduceAdd, Nat.reduceMul, ↓q2_of (m_isS1 hw h.ma h0 ha), ↓q2_of (m_isS1 hw h.ma h0 hb), d1, d2, c1, c2, c3, m36]
            · simp (disch := omega) only [↓g_in, ↓g_c0, ↓g_c1, ↓reduceIte, ↓y_lt, ↓y_q1, ↓y_q2, ↓sn_q3, ↓sn_t1l, ↓sn_t1r, ↓sn_t2l, ↓sn_t2r, y_q1, y_q2, sn_q3, sn_t1l, sn_t1r, sn_t2l, sn_t2r, nI_clamp, x_leT, x_leF, x_ltT, x_ltF, x_eqT, x_eqF, x_le0T, x_le0F, x_0leT, x_lt0F, x_0ltT, x_0ltF, x_eq0T, x_eq0F, x_le1T, x_le1F, x_1leT, x_1leF, x_1ltT, x_1ltF, x_lt1T, x_lt1F, x_eq1T, x_eq1F, x_m1F, nI_add, nI_1, sn_mul, x_sub, x_sub1, sn_m1, l2, l3, l4, l5, l6, l7, l8, l9, l10, l11, l12, l13, l14, l15, l20, l30, l40, l48, l60, l64, l99, l100, l700, l999, not_true_eq_false, not_false_eq_true, x_t0, x_t1, lts1, x_10, x_1sub, eq_self, Nat.reduceSub, Nat.reduceAdd, Nat.reduceMul, ↓q2_of (m_isS1 hw h.ma h0 ha), ↓q2_of (m_isS1 hw h.ma h0 hb), d1, d2, c1, c2, m36]
      · have z1' : bt (sd A 0 &&& C 9 1) a = false := by rw [z1, decide_eq_false c1]; rfl
        refine rej ?_ ?_
        · simp (disch := omega) only [↓g_in, ↓g_c0, ↓g_c1, ↓reduceIte, ↓y_lt, ↓y_q1, ↓y_q2, ↓sn_q3, ↓sn_t1l, ↓sn_t1r, ↓sn_t2l, ↓sn_t2r, y_q1, y_q2, sn_q3, sn_t1l, sn_t1r, sn_t2l, sn_t2r, nI_clamp, x_leT, x_leF, x_ltT, x_ltF, x_eqT, x_eqF, x_le0T, x_le0F, x_0leT, x_lt0F, x_0ltT, x_0ltF, x_eq0T, x_eq0F, x_le1T, x_le1F, x_1leT, x_1leF, x_1ltT, x_1ltF, x_lt1T, x_lt1F, x_eq1T, x_eq1F, x_m1F, nI_add, nI_1, sn_mul, x_sub, x_sub1, sn_m1, l2, l3, l4, l5, l6, l7, l8, l9, l10, l11, l12, l13, l14, l15, l20, l30, l40, l48, l60, l64, l99, l100, l700, l999, not_true_eq_false, not_false_eq_true, x_t0, x_t1, lts1, x_10, x_1sub, eq_self, Nat.reduceSub, Nat.reduceAdd, Nat.reduceMul, ↓t1_of (c_chS1 hw h.ca ha), ↓t1_of (c_chS1 hw h.ca hb), ↓q1_of s0, bs0, z1', no]
        · simp (disch := omega) only [↓g_in, ↓g_c0, ↓g_c1, ↓reduceIte, ↓y_lt, ↓y_q1, ↓y_q2, ↓sn_q3, ↓sn_t1l, ↓sn_t1r, ↓sn_t2l, ↓sn_t2r, y_q1, y_q2, sn_q3, sn_t1l, sn_t1r, sn_t2l, sn_t2r, nI_clamp, x_leT, x_leF, x_ltT, x_ltF, x_eqT, x_eqF, x_le0T, x_le0F, x_0leT, x_lt0F, x_0ltT, x_0ltF, x_eq0T, x_eq0F, x_le1T, x_le1F, x_1leT, x_1leF, x_1ltT, x_1ltF, x_lt1T, x_lt1F, x_eq1T, x_eq1F, x_m1F, nI_add, nI_1, sn_mul, x_sub, x_sub1, sn_m1, l2, l3, l4, l5, l6, l7, l8, l9, l10, l11, l12, l13, l14, l15, l20, l30, l40, l48, l60, l64, l99, l100, l700, l999, not_true_eq_false, not_false_eq_true, x_t0, x_t1, lts1, x_10, x_1sub, eq_self, Nat.reduceSub, Nat.reduceAdd, Nat.reduceMul, ↓q2_of (m_isS1 hw h.ma h0 ha), ↓q2_of (m_isS1 hw h.ma h0 hb), d1, c1, m36]
theorem x_undo (h : Rel A R t C M) : ans A R t C M (F_VM_undo C) (F_Mo_undo M) (fun v => .inl v) := by
  obtain ⟨M1, hM1, h0, h, hs⟩ := h.start
  have hw := h.wa
  have hn := hw.1
  have ht := h.tt
  obtain ⟨u, u1, u2, u3, u4⟩ := h.ah
  unfold F_VM_undo F_Mo_undo
  rw [hM1]
  by_cases hu : u = 0
  · subst hu
    refine ans_v (r := -1) (C' := C) (M' := M1) ?_ ?_ h (fun _ _ => rfl) hs.2.2 rfl h0
    · rw [u2, if_neg (by decide)]
    · rw [y_lt, u3, if_neg (sn_nn (show nI 0 = (0 : Int32) from rfl))]
  · have lp := lp_R (fun f j I => F_Mo_undo_16 f j I) (fun j I => (∀ s, s < j → I 86 s = M1 88 (16 * (u - 1) + s)) ∧ (∀ k, k ≠ 86 → k ≠ 61 → I k = M1 k) ∧ I 61 50 = nI (u - 1) ∧ ∀ j, j ≠ 50 → I 61 j = M1 61 j) (fun b => b.1 = nI (u - 1) ∧ (∀ s, s < 16 → b.2 86 s = M1 88 (16 * (u - 1) + s)) ∧ (∀ k, k ≠ 86 → k ≠ 61 → b.2 k = M1 k) ∧ b.2 61 50 = nI (u - 1) ∧ ∀ j, j ≠ 50 → b.2 61 j = M1 61 j) 16 (sd_up M1 61 50 (nI (u - 1))) ⟨fun s hs => absurd hs (by omega), fun k _ hk => up_n hk, up_s, fun j hj => up_m hj⟩ (by omega) ?_ ?_
    · obtain ⟨⟨v2, M2⟩, p1, p2, p3, p4, p5, p6⟩ := lp
      have p2 : v2 = nI (u - 1) := p2
      have p3 : ∀ s, s < 16 → M2 86 s = M1 88 (16 * (u - 1) + s) := p3
      have p4 : ∀ k, k ≠ 86 → k ≠ 61 → M2 k = M1 k := p4
      have p5 : M2 61 50 = nI (u - 1) := p5
      have p6 : ∀ j, j ≠ 50 → M2 61 j = M1 61 j := p6
      have e5 : nI (u - 1) * 5 = nI (5 * (u - 1)) := by rw [show (5 : Int32) = nI 5 from rfl, sn_mul, Nat.mul_comm]
      have l195 : (200 : Int32) - 5 = nI 195 := by decide
      have cl : ∃ C2, F_Story_takeBack C = some C2 ∧ C2 8 2 = nI (u - 1) ∧ (∀ s, s < 5 → C2 9 s = C 10 (5 * (u - 1) + s)) ∧ (∀ j, j ≠ 2 → C2 8 j = C 8 j) ∧ ∀ k, k ≠ 8 → k ≠ 9 → C2 k = C k := by
        unfold F_Story_takeBack F_State_readFrom
        rw [u2, if_neg (nI_nle (by omega) (by omega)), show nI u - 1 = nI (u - 1) from sn_sub (b := 1) (by omega), y_lt, up_s, e5, l195]
        simp (disch := omega) only [↓g_in, ↓g_c0, ↓g_c1, ↓reduceIte, ↓y_lt, ↓y_q1, ↓y_q2, ↓sn_q3, ↓sn_t1l, ↓sn_t1r, ↓sn_t2l, ↓sn_t2r, y_q1, y_q2, sn_q3, sn_t1l, sn_t1r, sn_t2l, sn_t2r, nI_clamp, x_leT, x_leF, x_ltT, x_ltF, x_eqT, x_eqF, x_le0T, x_le0F, x_0leT, x_lt0F, x_0ltT, x_0ltF, x_eq0T, x_eq0F, x_le1T, x_le1F, x_1leT, x_1leF, x_1ltT, x_1ltF, x_lt1T, x_lt1F, x_eq1T, x_eq1F, x_m1F, nI_add, nI_1, sn_mul, x_sub, x_sub1, sn_m1, l2, l3, l4, l5, l6, l7, l8, l9, l10, l11, l12, l13, l14, l15, l20, l30, l40, l48, l60, l64, l99, l100, l700, l999, not_true_eq_false, not_false_eq_true, x_t0, x_t1, lts1, x_10, x_1sub, eq_self, Nat.reduceSub, Nat.reduceAdd, Nat.reduceMul, up_n]
        refine ⟨_, rfl, by rw [up_n (by omega), up_n (by omega), up_n (by omega), up_n (by omega), up_n (by omega)]; exact up_s, fun s hs => ?_, fun j hj => by rw [up_n (by omega), up_n (by omega), up_n (by omega), up_n (by omega), up_n (by omega), up_m hj], fun k h8 h9 => by rw [up_n h9, up_n h9, up_n h9, up_n h9, up_n h9, up_n h8]⟩
        rcases (show s = 0 ∨ s = 1 ∨ s = 2 ∨ s = 3 ∨ s = 4 by omega) with rfl | rfl | rfl | rfl | rfl
        · rw [up_m (by omega), up_m (by omega), up_m (by omega), up_m (by omega)]; exact up_s
        · rw [up_m (by omega), up_m (by omega), up_m (by omega)]; exact up_s
        · rw [up_m (by omega), up_m (by omega)]; exact up_s
        · rw [up_m (by omega)]; exact up_s
        · exact up_s
      obtain ⟨C2, q1, q2, q3, q4, q5⟩ := cl
      refine ans_v (r := nI (u - 1)) (v := nI (u - 1)) (C' := C2) (M' := M2) ?_ ?_ ?_ (fun k hk => q5 k (by omega) (by omega)) (fun k hk => by rw [p4 k (by omega) (by omega), hs.2.2 k hk]) rfl (by rw [p6 0 (by omega)]; exact h0)
      · rw [u2, if_pos (show (0 : Int32) < nI u from nI_lt (a := 0) (by omega) (by omega)), q1, sn_q1, q2]
      · rw [y_lt, u3, if_pos (nI_ne0 (by omega) (by omega)), show nI u - 1 = nI (u - 1) from sn_sub (b := 1) (by omega), y_lt]
        rw [p2] at p1
        exact p1
      · refine h.act (fun k h1 h2 h3 h4 h5 h6 => q5 k (by omega) (by omega)) (fun k h1 h2 h3 h4 h5 h6 h7 h8 h9 => p4 k h3 h1) (fun j h1 h2 h3 h4 => p6 j h2) ⟨?_, ?_, ?_⟩ (fun k hk => by rw [q5 1 (by omega) (by omega), p4 73 (by omega) (by omega)]; exact h.re k hk)
        · exact stR_r hn (u4 (u - 1) (by omega)) p3 q3
        · exact ⟨u - 1, by omega, q2, p5, fun j hj => by rw [p4 88 (by omega) (by omega)]; show stR _ _ (fun s => C2 10 (5 * j + s)); rw [q5 10 (by omega) (by omega)]; exact u4 j (by omega)⟩
        · exact heR_s h.he (q4 6 (by omega)) (p6 53 (by omega)) (p4 91 (by omega) (by omega)) (fun k h1 h2 => q5 k (by omega) (by omega))
    · intro f I hI
      refine ⟨(nI (u - 1), I), ?_, rfl, hI⟩
      show F_Mo_undo_16B (F_Mo_undo_16 f) (nI 16) I = _
      unfold F_Mo_undo_16B
      rw [if_pos (show (16 : Int32) ≤ nI 16 from Int32.le_refl _), hI.2.2.1]
    · intro f j I hj hI
      obtain ⟨i1, i2, i3, i4⟩ := hI
      left
      refine ⟨sd_up I 86 j (M1 88 (16 * (u - 1) + j)), ⟨fun s hs => ?_, fun k h1 h2 => by rw [up_n h1, i2 k h1 h2], by rw [up_n (by omega)]; exact i3, fun q hq => by rw [up_n (by omega)]; exact i4 q hq⟩, ?_⟩
      · by_cases e : s = j
        · subst e; exact up_s
        · rw [up_m e]; exact i1 s (by omega)
      · show F_Mo_undo_16B (F_Mo_undo_16 f) (nI j) I = _
        unfold F_Mo_undo_16B
        rw [if_neg (show ¬ (16 : Int32) ≤ nI j from nI_ge (b := 16) hj (by omega)), i3, i2 88 (by omega) (by omega), show (16 : Int32) * nI (u - 1) + nI j = nI (16 * (u - 1) + j) from by rw [show (16 : Int32) = nI 16 from rfl, sn_mul, nI_add], sn_gu (sn_in' (by omega) (by omega)), sn_gu (sn_in' hj (by omega)), y_lt, nI_clamp (by omega), nI_clamp (by omega), nI_1]
end AC
