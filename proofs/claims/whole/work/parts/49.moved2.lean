/-! ===== moved: the model, and both ===== -/
section QU
variable {A : sA} {R : Nat → List Nat} {t : Nat} {C M : sm_MI}
theorem mvI_n {v : Nat} (h : v < 1000) : mvI v = nI v := by unfold mvI; rw [if_neg (by omega)]
theorem mvI_m : mvI 1000 = -1 := rfl
theorem m_88 {k16 : Int32 → Int32 → Int32 → Int32 → Int32 → Option Int32} {x1 x3 x4 x5 : Int32} {z v : Nat} (hz : z ≤ 12 ∨ z = 1000) (hv : v ≤ 12 ∨ v = 1000) : F_Mo_movedIn_88 k16 x1 (mvI z) x3 x4 x5 (mvI v) M = k16 x1 (mvI (if v < z then v else z)) x3 x4 (x5 + 1) := by
  unfold F_Mo_movedIn_88
  rcases hv with hv | hv
  · rcases hz with hz | hz
    · by_cases e : v < z
      · rw [mvI_n (v := v) (by omega), mvI_n (v := z) (by omega), if_neg (sn_ne1 (by omega)), if_neg (sn_ne1 (by omega)), if_neg (nI_ge e (by omega)), if_pos e, mvI_n (by omega)]
      · rw [mvI_n (v := v) (by omega), mvI_n (v := z) (by omega), if_neg (sn_ne1 (by omega)), if_neg (sn_ne1 (by omega)), if_pos (nI_le (by omega) (by omega)), if_neg e, mvI_n (by omega)]
    · rw [hz, mvI_n (v := v) (by omega), mvI_m, if_neg (sn_ne1 (by omega)), if_pos rfl, if_pos (by omega), mvI_n (by omega)]
  · rw [hv, mvI_m, if_pos rfl, if_neg (show ¬ 1000 < z by omega)]
theorem cdM_b (hw : wA A) {x : Int32} {r i j : Nat} (hr : r < 20) : cdM A x r i j ≤ 12 ∨ cdM A x r i j = 1000 := by
  unfold cdM
  split
  · exact mvN_b (A7_le hw hr)
  · exact Or.inr rfl
theorem m_movedIn (hw : wA A) (hm : mA A M) {c : Nat → Int32} (hst : stR (A 0 0) (M 86) c) {r : Nat} (hr : r < 20) (hq : 0 < A 6 r) : F_Mo_movedIn (nI r) M = some (mvI (mn2 (cdM A (pt A (r % 4) &&& c 0) r) (A 0 0) (A 0 0))) := by
  have hn := hw.1
  have q1 := (hm.2.2.2.2 r hr).1
  have w4 := (hw.2.2.2.2.2 r hr).1
  have emd : sd_mod (nI r) (nI 4) = nI (r % 4) := sn_mod (b := 4) (by omega) (by omega) (by omega)
  have g4 : ∀ {α : Type} {o : Option α}, sd_gu (¬ (nI 4 : Int32) = 0) o = o := fun {α o} => sn_gu (by decide)
  have g4' : ∀ {α : Type} {o : Option α}, sd_gu (¬ (4 : Int32) = 0) o = o := fun {α o} => sn_gu (by decide)
  unfold F_Mo_movedIn mn2
  rw [mo_so0 hw hm hst, sn_q1]
  have lp := lp_in (fun f j z => F_Mo_movedIn_10 M f (nI r) (mvI z) (c 0) j) (fun z => some (mvI z)) (fun i z => mn1 (cdM A (pt A (r % 4) &&& c 0) r i) (A 0 0) z) (fun _ z => z ≤ 12 ∨ z = 1000) (A 0 0) 1000 (Or.inr rfl) (by omega) ?_ ?_
  · exact lp.1
  · intro f z _
    show F_Mo_movedIn_10B (F_Mo_movedIn_10 M f) (nI r) (mvI z) (c 0) (nI (A 0 0)) M = _
    unfold F_Mo_movedIn_10B
    simp (disch := omega) only [↓g_in, ↓g_c0, ↓g_c1, ↓reduceIte, ↓y_lt, ↓y_q1, ↓y_q2, ↓sn_q3, ↓sn_t1l, ↓sn_t1r, ↓sn_t2l, ↓sn_t2r, y_q1, y_q2, sn_q3, sn_t1l, sn_t1r, sn_t2l, sn_t2r, nI_clamp, x_leT, x_leF, x_ltT, x_ltF, x_eqT, x_eqF, x_le0T, x_le0F, x_0leT, x_lt0F, x_0ltT, x_0ltF, x_eq0T, x_eq0F, x_le1T, x_le1F, x_1leT, x_1leF, x_1ltT, x_1ltF, x_lt1T, x_lt1F, x_eq1T, x_eq1F, x_m1F, nI_add, nI_1, sn_mul, x_sub, x_sub1, sn_m1, l2, l3, l4, l5, l6, l7, l8, l9, l10, l11, l12, l13, l14, l15, l20, l30, l40, l48, l60, l64, l99, l100, l700, l999, not_true_eq_false, not_false_eq_true, x_t0, x_t1, lts1, x_10, x_1sub, eq_self, Nat.reduceSub, Nat.reduceAdd, Nat.reduceMul, hm.1]
  · intro f a z ha hz
    have lq := lp_in (fun g j z => F_Mo_movedIn_16 (F_Mo_movedIn_10 M f) M g (nI r) (mvI z) (c 0) (nI a) j) (fun z => F_Mo_movedIn_10 M f (nI r) (mvI z) (c 0) (nI (a + 1))) (fun j z => if cdM A (pt A (r % 4) &&& c 0) r a j < z then cdM A (pt A (r % 4) &&& c 0) r a j else z) (fun _ z => z ≤ 12 ∨ z = 1000) (A 0 0) z hz (by omega) ?_ ?_
    · refine ⟨lq.2, ?_⟩
      show F_Mo_movedIn_10B (F_Mo_movedIn_10 M f) (nI r) (mvI z) (c 0) (nI a) M = _
      unfold F_Mo_movedIn_10B
      simp (disch := omega) only [↓g_in, ↓g_c0, ↓g_c1, ↓reduceIte, ↓y_lt, ↓y_q1, ↓y_q2, ↓sn_q3, ↓sn_t1l, ↓sn_t1r, ↓sn_t2l, ↓sn_t2r, y_q1, y_q2, sn_q3, sn_t1l, sn_t1r, sn_t2l, sn_t2r, nI_clamp, x_leT, x_leF, x_ltT, x_ltF, x_eqT, x_eqF, x_le0T, x_le0F, x_0leT, x_lt0F, x_0ltT, x_0ltF, x_eq0T, x_eq0F, x_le1T, x_le1F, x_1leT, x_1leF, x_1ltT, x_1ltF, x_lt1T, x_lt1F, x_eq1T, x_eq1F, x_m1F, nI_add, nI_1, sn_mul, x_sub, x_sub1, sn_m1, l2, l3, l4, l5, l6, l7, l8, l9, l10, l11, l12, l13, l14, l15, l20, l30, l40, l48, l60, l64, l99, l100, l700, l999, not_true_eq_false, not_false_eq_true, x_t0, x_t1, lts1, x_10, x_1sub, eq_self, Nat.reduceSub, Nat.reduceAdd, Nat.reduceMul, hm.1]
      exact lq.1
    · intro g z _
      show F_Mo_movedIn_16B (F_Mo_movedIn_10 M f) (F_Mo_movedIn_16 (F_Mo_movedIn_10 M f) M g) (nI r) (mvI z) (c 0) (nI a) (nI (A 0 0)) M = _
      unfold F_Mo_movedIn_16B
      simp (disch := omega) only [↓g_in, ↓g_c0, ↓g_c1, ↓reduceIte, ↓y_lt, ↓y_q1, ↓y_q2, ↓sn_q3, ↓sn_t1l, ↓sn_t1r, ↓sn_t2l, ↓sn_t2r, y_q1, y_q2, sn_q3, sn_t1l, sn_t1r, sn_t2l, sn_t2r, nI_clamp, x_leT, x_leF, x_ltT, x_ltF, x_eqT, x_eqF, x_le0T, x_le0F, x_0leT, x_lt0F, x_0ltT, x_0ltF, x_eq0T, x_eq0F, x_le1T, x_le1F, x_1leT, x_1leF, x_1ltT, x_1ltF, x_lt1T, x_lt1F, x_eq1T, x_eq1F, x_m1F, nI_add, nI_1, sn_mul, x_sub, x_sub1, sn_m1, l2, l3, l4, l5, l6, l7, l8, l9, l10, l11, l12, l13, l14, l15, l20, l30, l40, l48, l60, l64, l99, l100, l700, l999, not_true_eq_false, not_false_eq_true, x_t0, x_t1, lts1, x_10, x_1sub, eq_self, Nat.reduceSub, Nat.reduceAdd, Nat.reduceMul, hm.1]
    · intro g b z hb hz
      have hcb := cdM_b hw (x := pt A (r % 4) &&& c 0) (i := a) (j := b) hr
      refine ⟨by split; exact hcb; exact hz, ?_⟩
      show F_Mo_movedIn_16B (F_Mo_movedIn_10 M f) (F_Mo_movedIn_16 (F_Mo_movedIn_10 M f) M g) (nI r) (mvI z) (c 0) (nI a) (nI b) M = F_Mo_movedIn_16 (F_Mo_movedIn_10 M f) M g (nI r) (mvI (if cdM A (pt A (r % 4) &&& c 0) r a b < z then cdM A (pt A (r % 4) &&& c 0) r a b else z)) (c 0) (nI a) (nI (b + 1))
      obtain ⟨-, -, d3, d4, -⟩ := hm.2.2.2.1 a ha
      obtain ⟨-, -, d5, d6, -⟩ := hm.2.2.2.1 b hb
      obtain ⟨-, -, g3, g4', -⟩ := hw.2.2.2.2.1 a ha
      obtain ⟨-, -, g5, g6, -⟩ := hw.2.2.2.2.1 b hb
      unfold F_Mo_movedIn_16B
      simp (disch := omega) only [↓g_in, ↓g_c0, ↓g_c1, ↓reduceIte, ↓y_lt, ↓y_q1, ↓y_q2, ↓sn_q3, ↓sn_t1l, ↓sn_t1r, ↓sn_t2l, ↓sn_t2r, y_q1, y_q2, sn_q3, sn_t1l, sn_t1r, sn_t2l, sn_t2r, nI_clamp, x_leT, x_leF, x_ltT, x_ltF, x_eqT, x_eqF, x_le0T, x_le0F, x_0leT, x_lt0F, x_0ltT, x_0ltF, x_eq0T, x_eq0F, x_le1T, x_le1F, x_1leT, x_1leF, x_1ltT, x_1ltF, x_lt1T, x_lt1F, x_eq1T, x_eq1F, x_m1F, nI_add, nI_1, sn_mul, x_sub, x_sub1, sn_m1, l2, l3, l4, l5, l6, l7, l8, l9, l10, l11, l12, l13, l14, l15, l20, l30, l40, l48, l60, l64, l99, l100, l700, l999, not_true_eq_false, not_false_eq_true, x_t0, x_t1, lts1, x_10, x_1sub, eq_self, Nat.reduceSub, Nat.reduceAdd, Nat.reduceMul, hm.1]
      have lr := lp_in (fun o s w => F_Mo_movedIn_24 (F_Mo_movedIn_16 (F_Mo_movedIn_10 M f) M g) M o (nI r) (mvI z) (c 0) (nI a) (nI b) (nI w) s) (fun w => F_Mo_movedIn_16 (F_Mo_movedIn_10 M f) M g (nI r) (mvI (if cdM A (pt A (r % 4) &&& c 0) r a b < z then cdM A (pt A (r % 4) &&& c 0) r a b else z)) (c 0) (nI a) (nI (b + 1))) (fun s w => if rch A (pt A (r % 4) &&& c 0) a b s then w + 1 else w) (fun s w => w = cn (rch A (pt A (r % 4) &&& c 0) a b) s) (A 0 0) 0 rfl (by omega) ?_ ?_
      · exact lr.1
      · intro o w hw2
        have ew : w = cn (rch A (pt A (r % 4) &&& c 0) a b) 14 := by
          rw [hw2, cn_to (n := A 0 0) (N := 14) hn (fun s h1 h2 => by unfold rch; rw [b_and, (hst.1 s h1).1, Bool.and_false]; rfl)]
        have wb : w ≤ 14 := by rw [ew]; exact cn_le _ _
        show F_Mo_movedIn_24B (F_Mo_movedIn_16 (F_Mo_movedIn_10 M f) M g) (F_Mo_movedIn_24 (F_Mo_movedIn_16 (F_Mo_movedIn_10 M f) M g) M o) (nI r) (mvI z) (c 0) (nI a) (nI b) (nI w) (nI (A 0 0)) M = _
        unfold F_Mo_movedIn_24B
        have ec : cdM A (pt A (r % 4) &&& c 0) r a b = if A 6 r ≤ w then mvN A r (A 3 a) (A 4 b) else 1000 := by unfold cdM; rw [← ew]
        have h88 := m_88 (M := M) (k16 := F_Mo_movedIn_16 (F_Mo_movedIn_10 M f) M g) (x1 := nI r) (x3 := c 0) (x4 := nI a) (x5 := nI b) hz hcb
        rw [nI_1] at h88
        rw [← h88, ec]
        by_cases e : A 6 r ≤ w
        · simp (disch := omega) only [↓g_in, ↓g_c0, ↓g_c1, ↓reduceIte, ↓y_lt, ↓y_q1, ↓y_q2, ↓sn_q3, ↓sn_t1l, ↓sn_t1r, ↓sn_t2l, ↓sn_t2r, y_q1, y_q2, sn_q3, sn_t1l, sn_t1r, sn_t2l, sn_t2r, nI_clamp, x_leT, x_leF, x_ltT, x_ltF, x_eqT, x_eqF, x_le0T, x_le0F, x_0leT, x_lt0F, x_0ltT, x_0ltF, x_eq0T, x_eq0F, x_le1T, x_le1F, x_1leT, x_1leF, x_1ltT, x_1ltF, x_lt1T, x_lt1F, x_eq1T, x_eq1F, x_m1F, nI_add, nI_1, sn_mul, x_sub, x_sub1, sn_m1, l2, l3, l4, l5, l6, l7, l8, l9, l10, l11, l12, l13, l14, l15, l20, l30, l40, l48, l60, l64, l99, l100, l700, l999, not_true_eq_false, not_false_eq_true, x_t0, x_t1, lts1, x_10, x_1sub, eq_self, Nat.reduceSub, Nat.reduceAdd, Nat.reduceMul, hm.1, q1, e, d3, d6, m_moves hw hm hr hq (show A 3 a ≤ 48 by omega) (show A 4 b ≤ 48 by omega)]
        · simp (disch := omega) only [↓g_in, ↓g_c0, ↓g_c1, ↓reduceIte, ↓y_lt, ↓y_q1, ↓y_q2, ↓sn_q3, ↓sn_t1l, ↓sn_t1r, ↓sn_t2l, ↓sn_t2r, y_q1, y_q2, sn_q3, sn_t1l, sn_t1r, sn_t2l, sn_t2r, nI_clamp, x_leT, x_leF, x_ltT, x_ltF, x_eqT, x_eqF, x_le0T, x_le0F, x_0leT, x_lt0F, x_0ltT, x_0ltF, x_eq0T, x_eq0F, x_le1T, x_le1F, x_1leT, x_1leF, x_1ltT, x_1ltF, x_lt1T, x_lt1F, x_eq1T, x_eq1F, x_m1F, nI_add, nI_1, sn_mul, x_sub, x_sub1, sn_m1, l2, l3, l4, l5, l6, l7, l8, l9, l10, l11, l12, l13, l14, l15, l20, l30, l40, l48, l60, l64, l99, l100, l700, l999, not_true_eq_false, not_false_eq_true, x_t0, x_t1, lts1, x_10, x_1sub, eq_self, Nat.reduceSub, Nat.reduceAdd, Nat.reduceMul, hm.1, q1, e, mvI_m]
      · intro o s w hs1 hw2
        refine ⟨by rw [cn, ← hw2]; split <;> rfl, ?_⟩
        obtain ⟨-, m2, m3, m4, -⟩ := hm.2.2.2.1 s hs1
        obtain ⟨-, w2, w3, w5, -⟩ := hw.2.2.2.2.1 s hs1
        show F_Mo_movedIn_24B (F_Mo_movedIn_16 (F_Mo_movedIn_10 M f) M g) (F_Mo_movedIn_24 (F_Mo_movedIn_16 (F_Mo_movedIn_10 M f) M g) M o) (nI r) (mvI z) (c 0) (nI a) (nI b) (nI w) (nI s) M = F_Mo_movedIn_24 (F_Mo_movedIn_16 (F_Mo_movedIn_10 M f) M g) M o (nI r) (mvI z) (c 0) (nI a) (nI b) (nI (if rch A (pt A (r % 4) &&& c 0) a b s then w + 1 else w)) (nI (s + 1))
        unfold F_Mo_movedIn_24B rch
        have g4'' : ∀ {α : Type} {o : Option α}, sd_gu (¬ (4 : Int32) = 0) o = o := fun {α o} => sn_gu (by decide)
        rw [b_and, bt_pt hw, decide_eq_true hs1, Bool.true_and]
        cases e1 : bt (c 0) s
        · simp (disch := omega) only [↓g_in, ↓g_c0, ↓g_c1, ↓reduceIte, ↓y_lt, ↓y_q1, ↓y_q2, ↓sn_q3, ↓sn_t1l, ↓sn_t1r, ↓sn_t2l, ↓sn_t2r, y_q1, y_q2, sn_q3, sn_t1l, sn_t1r, sn_t2l, sn_t2r, nI_clamp, x_leT, x_leF, x_ltT, x_ltF, x_eqT, x_eqF, x_le0T, x_le0F, x_0leT, x_lt0F, x_0ltT, x_0ltF, x_eq0T, x_eq0F, x_le1T, x_le1F, x_1leT, x_1leF, x_1ltT, x_1ltF, x_lt1T, x_lt1F, x_eq1T, x_eq1F, x_m1F, nI_add, nI_1, sn_mul, x_sub, x_sub1, sn_m1, l2, l3, l4, l5, l6, l7, l8, l9, l10, l11, l12, l13, l14, l15, l20, l30, l40, l48, l60, l64, l99, l100, l700, l999, not_true_eq_false, not_false_eq_true, x_t0, x_t1, lts1, x_10, x_1sub, eq_self, Nat.reduceSub, Nat.reduceAdd, Nat.reduceMul, hm.1, e1, Bool.and_false, Bool.false_and, Bool.false_eq_true, Int32.add_zero]
        · by_cases e2 : A 2 s = r % 4
          · by_cases e3 : A 3 s ≤ A 3 a
            · by_cases e4 : A 4 b ≤ A 4 s
              · simp (disch := omega) only [↓g_in, ↓g_c0, ↓g_c1, ↓reduceIte, ↓y_lt, ↓y_q1, ↓y_q2, ↓sn_q3, ↓sn_t1l, ↓sn_t1r, ↓sn_t2l, ↓sn_t2r, y_q1, y_q2, sn_q3, sn_t1l, sn_t1r, sn_t2l, sn_t2r, nI_clamp, x_leT, x_leF, x_ltT, x_ltF, x_eqT, x_eqF, x_le0T, x_le0F, x_0leT, x_lt0F, x_0ltT, x_0ltF, x_eq0T, x_eq0F, x_le1T, x_le1F, x_1leT, x_1leF, x_1ltT, x_1ltF, x_lt1T, x_lt1F, x_eq1T, x_eq1F, x_m1F, nI_add, nI_1, sn_mul, x_sub, x_sub1, sn_m1, l2, l3, l4, l5, l6, l7, l8, l9, l10, l11, l12, l13, l14, l15, l20, l30, l40, l48, l60, l64, l99, l100, l700, l999, not_true_eq_false, not_false_eq_true, x_t0, x_t1, lts1, x_10, x_1sub, eq_self, Nat.reduceSub, Nat.reduceAdd, Nat.reduceMul, hm.1, e1, ↓g4'', g4, m2, emd, e2, m3, d3, m4, d6, e3, e4, decide_true, Bool.and_self]
              · simp (disch := omega) only [↓g_in, ↓g_c0, ↓g_c1, ↓reduceIte, ↓y_lt, ↓y_q1, ↓y_q2, ↓sn_q3, ↓sn_t1l, ↓sn_t1r, ↓sn_t2l, ↓sn_t2r, y_q1, y_q2, sn_q3, sn_t1l, sn_t1r, sn_t2l, sn_t2r, nI_clamp, x_leT, x_leF, x_ltT, x_ltF, x_eqT, x_eqF, x_le0T, x_le0F, x_0leT, x_lt0F, x_0ltT, x_0ltF, x_eq0T, x_eq0F, x_le1T, x_le1F, x_1leT, x_1leF, x_1ltT, x_1ltF, x_lt1T, x_lt1F, x_eq1T, x_eq1F, x_m1F, nI_add, nI_1, sn_mul, x_sub, x_sub1, sn_m1, l2, l3, l4, l5, l6, l7, l8, l9, l10, l11, l12, l13, l14, l15, l20, l30, l40, l48, l60, l64, l99, l100, l700, l999, not_true_eq_false, not_false_eq_true, x_t0, x_t1, lts1, x_10, x_1sub, eq_self, Nat.reduceSub, Nat.reduceAdd, Nat.reduceMul, hm.1, e1, ↓g4'', g4, m2, emd, e2, m3, d3, m4, d6, e3, e4, decide_true, decide_false, Bool.and_self, Bool.and_false, Bool.false_eq_true, Int32.add_zero]
            · simp (disch := omega) only [↓g_in, ↓g_c0, ↓g_c1, ↓reduceIte, ↓y_lt, ↓y_q1, ↓y_q2, ↓sn_q3, ↓sn_t1l, ↓sn_t1r, ↓sn_t2l, ↓sn_t2r, y_q1, y_q2, sn_q3, sn_t1l, sn_t1r, sn_t2l, sn_t2r, nI_clamp, x_leT, x_leF, x_ltT, x_ltF, x_eqT, x_eqF, x_le0T, x_le0F, x_0leT, x_lt0F, x_0ltT, x_0ltF, x_eq0T, x_eq0F, x_le1T, x_le1F, x_1leT, x_1leF, x_1ltT, x_1ltF, x_lt1T, x_lt1F, x_eq1T, x_eq1F, x_m1F, nI_add, nI_1, sn_mul, x_sub, x_sub1, sn_m1, l2, l3, l4, l5, l6, l7, l8, l9, l10, l11, l12, l13, l14, l15, l20, l30, l40, l48, l60, l64, l99, l100, l700, l999, not_true_eq_false, not_false_eq_true, x_t0, x_t1, lts1, x_10, x_1sub, eq_self, Nat.reduceSub, Nat.reduceAdd, Nat.reduceMul, hm.1, e1, ↓g4'', g4, m2, emd, e2, m3, d3, e3, decide_true, decide_false, Bool.and_self, Bool.and_false, Bool.false_and, Bool.false_eq_true, Int32.add_zero]
          · simp (disch := omega) only [↓g_in, ↓g_c0, ↓g_c1, ↓reduceIte, ↓y_lt, ↓y_q1, ↓y_q2, ↓sn_q3, ↓sn_t1l, ↓sn_t1r, ↓sn_t2l, ↓sn_t2r, y_q1, y_q2, sn_q3, sn_t1l, sn_t1r, sn_t2l, sn_t2r, nI_clamp, x_leT, x_leF, x_ltT, x_ltF, x_eqT, x_eqF, x_le0T, x_le0F, x_0leT, x_lt0F, x_0ltT, x_0ltF, x_eq0T, x_eq0F, x_le1T, x_le1F, x_1leT, x_1leF, x_1ltT, x_1ltF, x_lt1T, x_lt1F, x_eq1T, x_eq1F, x_m1F, nI_add, nI_1, sn_mul, x_sub, x_sub1, sn_m1, l2, l3, l4, l5, l6, l7, l8, l9, l10, l11, l12, l13, l14, l15, l20, l30, l40, l48, l60, l64, l99, l100, l700, l999, not_true_eq_false, not_false_eq_true, x_t0, x_t1, lts1, x_10, x_1sub, eq_self, Nat.reduceSub, Nat.reduceAdd, Nat.reduceMul, hm.1, e1, ↓g4'', g4, m2, emd, e2, decide_false, Bool.and_false, Bool.false_and, Bool.false_eq_true, Int32.add_zero]
/-- of a row -/
def rmv (A : sA) (x : Int32) (p j : Nat) : Nat := if A 6 (4 * p + j) = 0 then 0 else mn2 (cdC A (pt A j &&& x) (4 * p + j)) 14 14
theorem rmv_b (hw : wA A) {x : Int32} {p j : Nat} (hp : p < 5) (hj : j < 4) : rmv A x p j ≤ 12 ∨ rmv A x p j = 1000 := by
  unfold rmv
  split
  · exact Or.inl (by omega)
  · obtain ⟨a1, a2, a3⟩ := mn2_p (c := cdC A (pt A j &&& x) (4 * p + j)) (n := 14) 14
    rcases a3 with h | ⟨i, k, i1, k1, h⟩
    · exact Or.inr h
    · rw [h]
      unfold cdC
      split
      · exact mvN_b (A7_le hw (by omega))
      · exact Or.inr rfl
def rms (A : sA) (x : Int32) (p : Nat) : Nat → Nat
  | 0 => 0
  | n + 1 => rms A x p n + rmv A x p n
theorem rms_b (hw : wA A) {x : Int32} {p : Nat} (hp : p < 5) : ∀ {n : Nat}, n ≤ 4 → rms A x p n ≤ 1000 * n ∧ (rms A x p n < 1000 → rms A x p n ≤ 12 * n) ∧ ∀ j, j < n → rmv A x p j = 1000 → 1000 ≤ rms A x p n
  | 0, _ => ⟨Nat.le_refl _, fun _ => Nat.le_refl _, fun j hj => absurd hj (by omega)⟩
  | n + 1, hn => by
    obtain ⟨h1, h2, h3⟩ := rms_b hw (x := x) hp (n := n) (by omega)
    have h4 := rmv_b hw (x := x) hp (show n < 4 by omega)
    have e : rms A x p (n + 1) = rms A x p n + rmv A x p n := rfl
    rw [e]
    refine ⟨by omega, by omega, fun j hj hr => ?_⟩
    by_cases e2 : j = n
    · subst e2; omega
    · have := h3 j (by omega) hr; omega
theorem c_fewest (hw : wA A) (hc : cA A t C) {x : Int32} {p : Nat} (hp : p < 5) (hx : ∀ i, A 0 0 ≤ i → bt x i = false) : F_Choir_fewestMoves t x (nI p) C = some (if nr A p then -1 else if 1000 ≤ rms A x p 4 then -1 else nI (rms A x p 4)) := by
  unfold F_Choir_fewestMoves
  have lp := lp_in (fun f j (z : Nat × Bool) => F_Choir_fewestMoves_6 t C f x (nI p) (nI z.1) (if z.2 then 0 else 1) j) (fun z => some (if z.2 then -1 else if 1000 ≤ z.1 then -1 else nI z.1)) (fun j z => (z.1 + rmv A x p j, z.2 && decide (A 6 (4 * p + j) = 0))) (fun j z => z.1 = rms A x p j ∧ z.2 = al (fun i => decide (A 6 (4 * p + i) = 0)) j 0) 4 (0, true) ⟨rfl, rfl⟩ (by omega) ?_ ?_
  · obtain ⟨lp, e1, e2⟩ := lp
    have lp : F_Choir_fewestMoves_6 t C sd_fu x (nI p) 0 0 0 = _ := lp
    rw [lp, e1, e2, al_shift (p := fun r => decide (A 6 r = 0)), Nat.add_zero]
    rfl
  · intro f z hz
    have hb := (rms_b hw (x := x) hp (n := 4) (by omega)).1
    rw [← hz.1] at hb
    show F_Choir_fewestMoves_6B t (F_Choir_fewestMoves_6 t C f) x (nI p) (nI z.1) (if z.2 then 0 else 1) (nI 4) C = _
    unfold F_Choir_fewestMoves_6B
    cases z.2
    · by_cases e : 1000 ≤ z.1
      · simp (disch := omega) only [↓g_in, ↓g_c0, ↓g_c1, ↓reduceIte, ↓y_lt, ↓y_q1, ↓y_q2, ↓sn_q3, ↓sn_t1l, ↓sn_t1r, ↓sn_t2l, ↓sn_t2r, y_q1, y_q2, sn_q3, sn_t1l, sn_t1r, sn_t2l, sn_t2r, nI_clamp, x_leT, x_leF, x_ltT, x_ltF, x_eqT, x_eqF, x_le0T, x_le0F, x_0leT, x_lt0F, x_0ltT, x_0ltF, x_eq0T, x_eq0F, x_le1T, x_le1F, x_1leT, x_1leF, x_1ltT, x_1ltF, x_lt1T, x_lt1F, x_eq1T, x_eq1F, x_m1F, nI_add, nI_1, sn_mul, x_sub, x_sub1, sn_m1, l2, l3, l4, l5, l6, l7, l8, l9, l10, l11, l12, l13, l14, l15, l20, l30, l40, l48, l60, l64, l99, l100, l700, l999, not_true_eq_false, not_false_eq_true, x_t0, x_t1, lts1, x_10, x_1sub, eq_self, Nat.reduceSub, Nat.reduceAdd, Nat.reduceMul, Bool.false_eq_true, l1000, e]
      · simp (disch := omega) only [↓g_in, ↓g_c0, ↓g_c1, ↓reduceIte, ↓y_lt, ↓y_q1, ↓y_q2, ↓sn_q3, ↓sn_t1l, ↓sn_t1r, ↓sn_t2l, ↓sn_t2r, y_q1, y_q2, sn_q3, sn_t1l, sn_t1r, sn_t2l, sn_t2r, nI_clamp, x_leT, x_leF, x_ltT, x_ltF, x_eqT, x_eqF, x_le0T, x_le0F, x_0leT, x_lt0F, x_0ltT, x_0ltF, x_eq0T, x_eq0F, x_le1T, x_le1F, x_1leT, x_1leF, x_1ltT, x_1ltF, x_lt1T, x_lt1F, x_eq1T, x_eq1F, x_m1F, nI_add, nI_1, sn_mul, x_sub, x_sub1, sn_m1, l2, l3, l4, l5, l6, l7, l8, l9, l10, l11, l12, l13, l14, l15, l20, l30, l40, l48, l60, l64, l99, l100, l700, l999, not_true_eq_false, not_false_eq_true, x_t0, x_t1, lts1, x_10, x_1sub, eq_self, Nat.reduceSub, Nat.reduceAdd, Nat.reduceMul, Bool.false_eq_true, l1000, e]
    · simp (disch := omega) only [↓g_in, ↓g_c0, ↓g_c1, ↓reduceIte, ↓y_lt, ↓y_q1, ↓y_q2, ↓sn_q3, ↓sn_t1l, ↓sn_t1r, ↓sn_t2l, ↓sn_t2r, y_q1, y_q2, sn_q3, sn_t1l, sn_t1r, sn_t2l, sn_t2r, nI_clamp, x_leT, x_leF, x_ltT, x_ltF, x_eqT, x_eqF, x_le0T, x_le0F, x_0leT, x_lt0F, x_0ltT, x_0ltF, x_eq0T, x_eq0F, x_le1T, x_le1F, x_1leT, x_1leF, x_1ltT, x_1ltF, x_lt1T, x_lt1F, x_eq1T, x_eq1F, x_m1F, nI_add, nI_1, sn_mul, x_sub, x_sub1, sn_m1, l2, l3, l4, l5, l6, l7, l8, l9, l10, l11, l12, l13, l14, l15, l20, l30, l40, l48, l60, l64, l99, l100, l700, l999, not_true_eq_false, not_false_eq_true, x_t0, x_t1, lts1, x_10, x_1sub, eq_self, Nat.reduceSub, Nat.reduceAdd, Nat.reduceMul]
  · intro f j z hj hz
    have hr : 4 * p + j < 20 := by omega
    have q1 := (hc.2.2.2.2.1 (4 * p + j) hr).1
    have w4 := (hw.2.2.2.2.2 (4 * p + j) hr).1
    refine ⟨⟨by rw [hz.1]; rfl, ?_⟩, ?_⟩
    · show (z.2 && decide (A 6 (4 * p + j) = 0)) = _
      rw [hz.2, Bool.eq_iff_iff, Bool.and_eq_true, al_iff, al_iff]
      constructor
      · intro h i h1 h2
        by_cases e : i = j
        · rw [e]; exact h.2
        · exact h.1 i h1 (by omega)
      · intro h
        exact ⟨fun i h1 h2 => h i h1 (by omega), h j (by omega) (by omega)⟩
    · show F_Choir_fewestMoves_6B t (F_Choir_fewestMoves_6 t C f) x (nI p) (nI z.1) (if z.2 then 0 else 1) (nI j) C = F_Choir_fewestMoves_6 t C f x (nI p) (nI (z.1 + rmv A x p j)) (if (z.2 && decide (A 6 (4 * p + j) = 0)) then 0 else 1) (nI (j + 1))
      unfold F_Choir_fewestMoves_6B rmv
      by_cases e : A 6 (4 * p + j) = 0
      · simp (disch := omega) only [↓g_in, ↓g_c0, ↓g_c1, ↓reduceIte, ↓y_lt, ↓y_q1, ↓y_q2, ↓sn_q3, ↓sn_t1l, ↓sn_t1r, ↓sn_t2l, ↓sn_t2r, y_q1, y_q2, sn_q3, sn_t1l, sn_t1r, sn_t2l, sn_t2r, nI_clamp, x_leT, x_leF, x_ltT, x_ltF, x_eqT, x_eqF, x_le0T, x_le0F, x_0leT, x_lt0F, x_0ltT, x_0ltF, x_eq0T, x_eq0F, x_le1T, x_le1F, x_1leT, x_1leF, x_1ltT, x_1ltF, x_lt1T, x_lt1F, x_eq1T, x_eq1F, x_m1F, nI_add, nI_1, sn_mul, x_sub, x_sub1, sn_m1, l2, l3, l4, l5, l6, l7, l8, l9, l10, l11, l12, l13, l14, l15, l20, l30, l40, l48, l60, l64, l99, l100, l700, l999, not_true_eq_false, not_false_eq_true, x_t0, x_t1, lts1, x_10, x_1sub, eq_self, Nat.reduceSub, Nat.reduceAdd, Nat.reduceMul, Nat.mul_comm p 4, q1, e, decide_true, Bool.and_true, Nat.add_zero]
      · have er := c_rowMoves (x := pt A j &&& x) hw hc hr (fun i hi => by rw [b_and, hx i hi, Bool.and_false])
        simp (disch := omega) only [↓g_in, ↓g_c0, ↓g_c1, ↓reduceIte, ↓y_lt, ↓y_q1, ↓y_q2, ↓sn_q3, ↓sn_t1l, ↓sn_t1r, ↓sn_t2l, ↓sn_t2r, y_q1, y_q2, sn_q3, sn_t1l, sn_t1r, sn_t2l, sn_t2r, nI_clamp, x_leT, x_leF, x_ltT, x_ltF, x_eqT, x_eqF, x_le0T, x_le0F, x_0leT, x_lt0F, x_0ltT, x_0ltF, x_eq0T, x_eq0F, x_le1T, x_le1F, x_1leT, x_1leF, x_1ltT, x_1ltF, x_lt1T, x_lt1F, x_eq1T, x_eq1F, x_m1F, nI_add, nI_1, sn_mul, x_sub, x_sub1, sn_m1, l2, l3, l4, l5, l6, l7, l8, l9, l10, l11, l12, l13, l14, l15, l20, l30, l40, l48, l60, l64, l99, l100, l700, l999, not_true_eq_false, not_false_eq_true, x_t0, x_t1, lts1, x_10, x_1sub, eq_self, Nat.reduceSub, Nat.reduceAdd, Nat.reduceMul, Nat.mul_comm p 4, q1, e, decide_false, Bool.and_false, Bool.false_eq_true, c_ofPart' hc hj, er]
theorem q_moved (h : Rel A R t C M) (x : Int32) : ∃ r, F_VM_moved t x C = some r ∧ mq (F_Mo_moved x M) M (cv r) := by
  obtain ⟨M1, hM1, h0, h, hs⟩ := h.start
  have hw := h.wa
  have hc := h.ca
  have hm := h.ma
  have hst := h.st
  have hn := hw.1
  have h5 := hw.2.1
  unfold F_VM_moved F_Mo_moved
  rw [hM1]
  rcases ix_or x (n := A 0 1) (by omega) with hx | ⟨p, hp, rfl⟩
  · refine ⟨.inr 1, by rw [c_chP0 hw hc hx]; rfl, mq_t hs (v := 0) ?_⟩
    simp (disch := omega) only [↓g_in, ↓g_c0, ↓g_c1, ↓reduceIte, ↓y_lt, ↓y_q1, ↓y_q2, ↓sn_q3, ↓sn_t1l, ↓sn_t1r, ↓sn_t2l, ↓sn_t2r, y_q1, y_q2, sn_q3, sn_t1l, sn_t1r, sn_t2l, sn_t2r, nI_clamp, x_leT, x_leF, x_ltT, x_ltF, x_eqT, x_eqF, x_le0T, x_le0F, x_0leT, x_lt0F, x_0ltT, x_0ltF, x_eq0T, x_eq0F, x_le1T, x_le1F, x_1leT, x_1leF, x_1ltT, x_1ltF, x_lt1T, x_lt1F, x_eq1T, x_eq1F, x_m1F, nI_add, nI_1, sn_mul, x_sub, x_sub1, sn_m1, l2, l3, l4, l5, l6, l7, l8, l9, l10, l11, l12, l13, l14, l15, l20, l30, l40, l48, l60, l64, l99, l100, l700, l999, not_true_eq_false, not_false_eq_true, x_t0, x_t1, lts1, x_10, x_1sub, eq_self, Nat.reduceSub, Nat.reduceAdd, Nat.reduceMul, ↓q2_of (m_isP0 hw hm h0 hx)]
  · have ef := c_fewest (x := C 9 0) hw hc (show p < 5 by omega) (fun i hi => (hst.1 i hi).1)
    have eh := mo_hasRows hw hm (show p < 5 by omega)
    refine ⟨.inl (if nr A p then -1 else if 1000 ≤ rms A (C 9 0) p 4 then -1 else nI (rms A (C 9 0) p 4)), ?_, mq_v (M' := M1) ?_ h0 hs⟩
    · simp (disch := omega) only [↓g_in, ↓g_c0, ↓g_c1, ↓reduceIte, ↓y_lt, ↓y_q1, ↓y_q2, ↓sn_q3, ↓sn_t1l, ↓sn_t1r, ↓sn_t2l, ↓sn_t2r, y_q1, y_q2, sn_q3, sn_t1l, sn_t1r, sn_t2l, sn_t2r, nI_clamp, x_leT, x_leF, x_ltT, x_ltF, x_eqT, x_eqF, x_le0T, x_le0F, x_0leT, x_lt0F, x_0ltT, x_0ltF, x_eq0T, x_eq0F, x_le1T, x_le1F, x_1leT, x_1leF, x_1ltT, x_1ltF, x_lt1T, x_lt1F, x_eq1T, x_eq1F, x_m1F, nI_add, nI_1, sn_mul, x_sub, x_sub1, sn_m1, l2, l3, l4, l5, l6, l7, l8, l9, l10, l11, l12, l13, l14, l15, l20, l30, l40, l48, l60, l64, l99, l100, l700, l999, not_true_eq_false, not_false_eq_true, x_t0, x_t1, lts1, x_10, x_1sub, eq_self, Nat.reduceSub, Nat.reduceAdd, Nat.reduceMul, ↓t1_of (c_chP1 hw hc hp), ef]
    · cases hnr : nr A p
      · rw [hnr] at eh
        simp (disch := omega) only [↓g_in, ↓g_c0, ↓g_c1, ↓reduceIte, ↓y_lt, ↓y_q1, ↓y_q2, ↓sn_q3, ↓sn_t1l, ↓sn_t1r, ↓sn_t2l, ↓sn_t2r, y_q1, y_q2, sn_q3, sn_t1l, sn_t1r, sn_t2l, sn_t2r, nI_clamp, x_leT, x_leF, x_ltT, x_ltF, x_eqT, x_eqF, x_le0T, x_le0F, x_0leT, x_lt0F, x_0ltT, x_0ltF, x_eq0T, x_eq0F, x_le1T, x_le1F, x_1leT, x_1leF, x_1ltT, x_1ltF, x_lt1T, x_lt1F, x_eq1T, x_eq1F, x_m1F, nI_add, nI_1, sn_mul, x_sub, x_sub1, sn_m1, l2, l3, l4, l5, l6, l7, l8, l9, l10, l11, l12, l13, l14, l15, l20, l30, l40, l48, l60, l64, l99, l100, l700, l999, not_true_eq_false, not_false_eq_true, x_t0, x_t1, lts1, x_10, x_1sub, eq_self, Nat.reduceSub, Nat.reduceAdd, Nat.reduceMul, ↓q2_of (m_isP1 hw hm h0 hp), eh, Bool.false_eq_true]
        have lp := lp_R (fun f j (z : Nat) => F_Mo_moved_21 f (nI p) (nI z) (nI (4 * p) + j) M1) (fun j z => z = rms A (C 9 0) p j ∧ z ≤ 12 * j) (fun b => b = (if 1000 ≤ rms A (C 9 0) p 4 then -1 else nI (rms A (C 9 0) p 4), M1)) 4 0 ⟨rfl, Nat.le_refl _⟩ (by omega) ?_ ?_
        · obtain ⟨b, e, hb⟩ := lp
          simp only [nI_add, Nat.add_zero] at e
          rw [← hb]
          exact e
        · intro f z hz
          refine ⟨(nI z, M1), ?_, ?_⟩
          · show F_Mo_moved_21B (F_Mo_moved_21 f) (nI p) (nI z) (nI (4 * p) + nI 4) M1 = _
            unfold F_Mo_moved_21B
            simp (disch := omega) only [↓g_in, ↓g_c0, ↓g_c1, ↓reduceIte, ↓y_lt, ↓y_q1, ↓y_q2, ↓sn_q3, ↓sn_t1l, ↓sn_t1r, ↓sn_t2l, ↓sn_t2r, y_q1, y_q2, sn_q3, sn_t1l, sn_t1r, sn_t2l, sn_t2r, nI_clamp, x_leT, x_leF, x_ltT, x_ltF, x_eqT, x_eqF, x_le0T, x_le0F, x_0leT, x_lt0F, x_0ltT, x_0ltF, x_eq0T, x_eq0F, x_le1T, x_le1F, x_1leT, x_1leF, x_1ltT, x_1ltF, x_lt1T, x_lt1F, x_eq1T, x_eq1F, x_m1F, nI_add, nI_1, sn_mul, x_sub, x_sub1, sn_m1, l2, l3, l4, l5, l6, l7, l8, l9, l10, l11, l12, l13, l14, l15, l20, l30, l40, l48, l60, l64, l99, l100, l700, l999, not_true_eq_false, not_false_eq_true, x_t0, x_t1, lts1, x_10, x_1sub, eq_self, Nat.reduceSub, Nat.reduceAdd, Nat.reduceMul]
          · rw [← hz.1, if_neg (by omega)]
        · intro f j z hj hz
          have hr : 4 * p + j < 20 := by omega
          have q1 := (hm.2.2.2.2 (4 * p + j) hr).1
          have w4 := (hw.2.2.2.2.2 (4 * p + j) hr).1
          have hrb := rmv_b hw (x := C 9 0) (show p < 5 by omega) hj
          show (∃ a', _ ∧ F_Mo_moved_21B (F_Mo_moved_21 f) (nI p) (nI z) (nI (4 * p) + nI j) M1 = F_Mo_moved_21 f (nI p) (nI a') (nI (4 * p) + nI (j + 1)) M1) ∨ ∃ b, F_Mo_moved_21B (F_Mo_moved_21 f) (nI p) (nI z) (nI (4 * p) + nI j) M1 = some b ∧ _
          by_cases e : A 6 (4 * p + j) = 0
          · have e0 : rmv A (C 9 0) p j = 0 := by unfold rmv; rw [if_pos e]
            left
            refine ⟨z, ⟨?_, by omega⟩, ?_⟩
            · show z = rms A (C 9 0) p j + rmv A (C 9 0) p j
              rw [e0, hz.1]; rfl
            · unfold F_Mo_moved_21B F_Mo_moved_38
              have n01' : ((0 : Int32) = -1) = False := eq_false (by decide)
              simp (disch := omega) only [↓g_in, ↓g_c0, ↓g_c1, ↓reduceIte, ↓y_lt, ↓y_q1, ↓y_q2, ↓sn_q3, ↓sn_t1l, ↓sn_t1r, ↓sn_t2l, ↓sn_t2r, y_q1, y_q2, sn_q3, sn_t1l, sn_t1r, sn_t2l, sn_t2r, nI_clamp, x_leT, x_leF, x_ltT, x_ltF, x_eqT, x_eqF, x_le0T, x_le0F, x_0leT, x_lt0F, x_0ltT, x_0ltF, x_eq0T, x_eq0F, x_le1T, x_le1F, x_1leT, x_1leF, x_1ltT, x_1ltF, x_lt1T, x_lt1F, x_eq1T, x_eq1F, x_m1F, nI_add, nI_1, sn_mul, x_sub, x_sub1, sn_m1, l2, l3, l4, l5, l6, l7, l8, l9, l10, l11, l12, l13, l14, l15, l20, l30, l40, l48, l60, l64, l99, l100, l700, l999, not_true_eq_false, not_false_eq_true, x_t0, x_t1, lts1, x_10, x_1sub, eq_self, Nat.reduceSub, Nat.reduceAdd, Nat.reduceMul, q1, e, n01', Int32.add_zero, Nat.add_assoc]
          · have ei := m_movedIn hw hm hst hr (by omega)
            rw [show (4 * p + j) % 4 = j by omega, ← mv_eq hw hr (by omega) (fun i hi => by rw [b_and, (hst.1 i hi).1, Bool.and_false])] at ei
            have er : mn2 (cdC A (pt A j &&& C 9 0) (4 * p + j)) 14 14 = rmv A (C 9 0) p j := by unfold rmv; rw [if_neg e]
            rw [er] at ei
            rcases hrb with hrb | hrb
            · left
              refine ⟨z + rmv A (C 9 0) p j, ⟨?_, by omega⟩, ?_⟩
              · show z + _ = rms A (C 9 0) p j + rmv A (C 9 0) p j
                rw [hz.1]
              · unfold F_Mo_moved_21B F_Mo_moved_38
                rw [mvI_n (by omega)] at ei
                simp (disch := omega) only [↓g_in, ↓g_c0, ↓g_c1, ↓reduceIte, ↓y_lt, ↓y_q1, ↓y_q2, ↓sn_q3, ↓sn_t1l, ↓sn_t1r, ↓sn_t2l, ↓sn_t2r, y_q1, y_q2, sn_q3, sn_t1l, sn_t1r, sn_t2l, sn_t2r, nI_clamp, x_leT, x_leF, x_ltT, x_ltF, x_eqT, x_eqF, x_le0T, x_le0F, x_0leT, x_lt0F, x_0ltT, x_0ltF, x_eq0T, x_eq0F, x_le1T, x_le1F, x_1leT, x_1leF, x_1ltT, x_1ltF, x_lt1T, x_lt1F, x_eq1T, x_eq1F, x_m1F, nI_add, nI_1, sn_mul, x_sub, x_sub1, sn_m1, l2, l3, l4, l5, l6, l7, l8, l9, l10, l11, l12, l13, l14, l15, l20, l30, l40, l48, l60, l64, l99, l100, l700, l999, not_true_eq_false, not_false_eq_true, x_t0, x_t1, lts1, x_10, x_1sub, eq_self, Nat.reduceSub, Nat.reduceAdd, Nat.reduceMul, q1, e, ei, Nat.add_assoc]
            · right
              rw [hrb, mvI_m] at ei
              refine ⟨(-1, M1), ?_, ?_⟩
              · unfold F_Mo_moved_21B F_Mo_moved_38
                simp (disch := omega) only [↓g_in, ↓g_c0, ↓g_c1, ↓reduceIte, ↓y_lt, ↓y_q1, ↓y_q2, ↓sn_q3, ↓sn_t1l, ↓sn_t1r, ↓sn_t2l, ↓sn_t2r, y_q1, y_q2, sn_q3, sn_t1l, sn_t1r, sn_t2l, sn_t2r, nI_clamp, x_leT, x_leF, x_ltT, x_ltF, x_eqT, x_eqF, x_le0T, x_le0F, x_0leT, x_lt0F, x_0ltT, x_0ltF, x_eq0T, x_eq0F, x_le1T, x_le1F, x_1leT, x_1leF, x_1ltT, x_1ltF, x_lt1T, x_lt1F, x_eq1T, x_eq1F, x_m1F, nI_add, nI_1, sn_mul, x_sub, x_sub1, sn_m1, l2, l3, l4, l5, l6, l7, l8, l9, l10, l11, l12, l13, l14, l15, l20, l30, l40, l48, l60, l64, l99, l100, l700, l999, not_true_eq_false, not_false_eq_true, x_t0, x_t1, lts1, x_10, x_1sub, eq_self, Nat.reduceSub, Nat.reduceAdd, Nat.reduceMul, q1, e, ei]
              · have := (rms_b hw (x := C 9 0) (show p < 5 by omega) (n := 4) (by omega)).2.2 j hj hrb
                rw [if_pos this]
      · rw [hnr] at eh
        simp (disch := omega) only [↓g_in, ↓g_c0, ↓g_c1, ↓reduceIte, ↓y_lt, ↓y_q1, ↓y_q2, ↓sn_q3, ↓sn_t1l, ↓sn_t1r, ↓sn_t2l, ↓sn_t2r, y_q1, y_q2, sn_q3, sn_t1l, sn_t1r, sn_t2l, sn_t2r, nI_clamp, x_leT, x_leF, x_ltT, x_ltF, x_eqT, x_eqF, x_le0T, x_le0F, x_0leT, x_lt0F, x_0ltT, x_0ltF, x_eq0T, x_eq0F, x_le1T, x_le1F, x_1leT, x_1leF, x_1ltT, x_1ltF, x_lt1T, x_lt1F, x_eq1T, x_eq1F, x_m1F, nI_add, nI_1, sn_mul, x_sub, x_sub1, sn_m1, l2, l3, l4, l5, l6, l7, l8, l9, l10, l11, l12, l13, l14, l15, l20, l30, l40, l48, l60, l64, l99, l100, l700, l999, not_true_eq_false, not_false_eq_true, x_t0, x_t1, lts1, x_10, x_1sub, eq_self, Nat.reduceSub, Nat.reduceAdd, Nat.reduceMul, ↓q2_of (m_isP1 hw hm h0 hp), eh]
end QU
