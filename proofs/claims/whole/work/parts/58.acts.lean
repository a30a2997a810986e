/-! ===== acts ===== -/
/-- class and model answer alike, and hold the same afterwards -/
def ans {δ : Type} (A : sA) (R : Nat → List Nat) (t : Nat) (C M : sm_MI) (o : Option (δ × sm_MI)) (m : Option (Int32 × sm_MI)) (f : δ → Int32 ⊕ Int32) : Prop :=
  ∃ r C' v M', o = some (r, C') ∧ m = some (v, M') ∧ Rel A R t C' M' ∧ (∀ k, 61 ≤ k → C' k = C k) ∧ (∀ k, k < 61 → M' k = M k) ∧ (match f r with
  | .inl w => v = w ∧ M' 61 0 = 0
  | .inr e => M' 61 0 = e)
section AC
variable {A : sA} {R : Nat → List Nat} {t : Nat} {C M C' M' : sm_MI}
theorem Rel.act (h : Rel A R t C M) (fC : ∀ k, k ≠ 1 → (k < 8 ∨ 14 ≤ k) → k ≠ 2 → k ≠ 20 → k ≠ t + 18 → k ≠ t + 19 → C' k = C k)
    (fM : ∀ k, k ≠ 61 → k ≠ 73 → k ≠ 86 → k ≠ 87 → k ≠ 88 → k ≠ 89 → k ≠ 90 → k ≠ 91 → k ≠ 92 → M' k = M k) (fM1 : ∀ j, j ≠ 0 → j ≠ 50 → j ≠ 53 → j ≠ 56 → M' 61 j = M 61 j)
    (hch : chR A C' 8 (M' 86) (M' 88) (M' 91) (M' 61 50) (M' 61 53)) (hre : ∀ k, k < 3 → C' 1 k = M' 73 k) : Rel A R t C' M' := by
  have ht := h.tt
  obtain ⟨⟨h1, h2, h3, h4, h5, h6⟩, h7, h8, h9, h10, h11, h12⟩ := h
  refine ⟨⟨h1, h2, cA_same h3 (fun k hk => fC _ (by omega) (by omega) (by omega) (by omega) (by omega) (by omega)), ?_, mA_of h5 (fM1 1 (by omega) (by omega) (by omega) (by omega)) (fM1 2 (by omega) (by omega) (by omega) (by omega)) (fM1 3 (by omega) (by omega) (by omega) (by omega)) (fun k a b => fM k (by omega) (by omega) (by omega) (by omega) (by omega) (by omega) (by omega) (by omega) (by omega)), ?_⟩, hch, ?_, ?_, hre, ?_, h12⟩
  · unfold rC
    rw [fC (t + 14 + 1) (by omega) (by omega) (by omega) (by omega) (by omega) (by omega), fC (t + 14 + 2) (by omega) (by omega) (by omega) (by omega) (by omega) (by omega), fC (t + 14 + 3) (by omega) (by omega) (by omega) (by omega) (by omega) (by omega)]
    exact h4
  · unfold rM
    rw [fM 70 (by omega) (by omega) (by omega) (by omega) (by omega) (by omega) (by omega) (by omega) (by omega), fM 71 (by omega) (by omega) (by omega) (by omega) (by omega) (by omega) (by omega) (by omega) (by omega)]
    exact h6
  · rw [fC 0 (by omega) (by omega) (by omega) (by omega) (by omega) (by omega), fM1 57 (by omega) (by omega) (by omega) (by omega), fM1 58 (by omega) (by omega) (by omega) (by omega), fM1 59 (by omega) (by omega) (by omega) (by omega), fM 93 (by omega) (by omega) (by omega) (by omega) (by omega) (by omega) (by omega) (by omega) (by omega), fM 94 (by omega) (by omega) (by omega) (by omega) (by omega) (by omega) (by omega) (by omega) (by omega), fM 95 (by omega) (by omega) (by omega) (by omega) (by omega) (by omega) (by omega) (by omega) (by omega)]
    exact ⟨h8.1, h8.2.imp id (fun z => ⟨z.1, chR_C z.2 (fun k hk => fC _ (by omega) (by omega) (by omega) (by omega) (by omega) (by omega))⟩)⟩
  · rw [fC 0 (by omega) (by omega) (by omega) (by omega) (by omega) (by omega), fM1 17 (by omega) (by omega) (by omega) (by omega)]; exact h9
  · rw [fC 4 (by omega) (by omega) (by omega) (by omega) (by omega) (by omega), fC 5 (by omega) (by omega) (by omega) (by omega) (by omega) (by omega), fM 72 (by omega) (by omega) (by omega) (by omega) (by omega) (by omega) (by omega) (by omega) (by omega), fM1 15 (by omega) (by omega) (by omega) (by omega)]; exact h11
/-- the acts that are kept -/
def ahR (n : Nat) (C M : sm_MI) : Prop := ∃ u, u ≤ 40 ∧ C 8 2 = nI u ∧ M 61 50 = nI u ∧ ∀ j, j < u → stR n (fun s => M 88 (16 * j + s)) (fun s => C 10 (5 * j + s))
theorem stR_r {n : Nat} {m m' c c' : Nat → Int32} (hn : n ≤ 14) (h : stR n m c) (e1 : ∀ s, s < 16 → m' s = m s) (e2 : ∀ s, s < 5 → c' s = c s) : stR n m' c' := stR_c (stR_m hn h e1) e2
theorem c_keep19 {u : Nat} (hu : u < 40) (h2 : C 8 2 = nI u) : ∃ C', F_Story_keepAct_19 C = some C' ∧ C' 8 2 = nI (u + 1) ∧ (∀ s, s < 5 → C' 10 (5 * u + s) = C 9 s) ∧ (∀ j, j < 5 * u ∨ 5 * u + 5 ≤ j → C' 10 j = C 10 j) ∧ (∀ j, j ≠ 2 → C' 8 j = C 8 j) ∧ ∀ k, k ≠ 8 → k ≠ 10 → C' k = C k := by
  have e5 : nI u * 5 = nI (5 * u) := by rw [show (5 : Int32) = nI 5 from rfl, sn_mul, Nat.mul_comm]
  have l195 : (200 : Int32) - 5 = nI 195 := by decide
  unfold F_Story_keepAct_19 F_State_writeTo
  rw [h2, e5, l195]
  simp (disch := omega) only [↓g_in, ↓g_c0, ↓g_c1, ↓reduceIte, ↓y_lt, ↓y_q1, ↓y_q2, ↓sn_q3, ↓sn_t1l, ↓sn_t1r, ↓sn_t2l, ↓sn_t2r, y_q1, y_q2, sn_q3, sn_t1l, sn_t1r, sn_t2l, sn_t2r, nI_clamp, x_leT, x_leF, x_ltT, x_ltF, x_eqT, x_eqF, x_le0T, x_le0F, x_0leT, x_lt0F, x_0ltT, x_0ltF, x_eq0T, x_eq0F, x_le1T, x_le1F, x_1leT, x_1leF, x_1ltT, x_1ltF, x_lt1T, x_lt1F, x_eq1T, x_eq1F, x_m1F, nI_add, nI_1, sn_mul, x_sub, x_sub1, sn_m1, l2, l3, l4, l5, l6, l7, l8, l9, l10, l11, l12, l13, l14, l15, l20, l30, l40, l48, l60, l64, l99, l100, l700, l999, not_true_eq_false, not_false_eq_true, x_t0, x_t1, lts1, x_10, x_1sub, eq_self, Nat.reduceSub, Nat.reduceAdd, Nat.reduceMul, up_n, h2]
  refine ⟨_, rfl, up_s, fun s hs => ?_, fun j hj => ?_, fun j hj => ?_, fun k h8 h10 => ?_⟩
  · rw [up_n (by omega)]
    rcases (show s = 0 ∨ s = 1 ∨ s = 2 ∨ s = 3 ∨ s = 4 by omega) with rfl | rfl | rfl | rfl | rfl
    · rw [up_m (by omega), up_m (by omega), up_m (by omega), up_m (by omega)]; exact up_s
    · rw [up_m (by omega), up_m (by omega), up_m (by omega)]; exact up_s
    · rw [up_m (by omega), up_m (by omega)]; exact up_s
    · rw [up_m (by omega)]; exact up_s
    · exact up_s
  · rw [up_n (by omega), up_m (by omega), up_m (by omega), up_m (by omega), up_m (by omega), up_m (by omega)]
  · rw [up_m hj, up_n (by omega), up_n (by omega), up_n (by omega), up_n (by omega), up_n (by omega)]
  · rw [up_n h8, up_n h10, up_n h10, up_n h10, up_n h10, up_n h10]
theorem m_keep29 {u : Nat} (hu : u < 40) (h2 : M 61 50 = nI u) : ∃ M', F_Mo_keeps_29 sd_fu 0 M = some M' ∧ M' 61 50 = nI (u + 1) ∧ (∀ s, s < 16 → M' 88 (16 * u + s) = M 86 s) ∧ (∀ j, j < 16 * u ∨ 16 * u + 16 ≤ j → M' 88 j = M 88 j) ∧ (∀ j, j ≠ 50 → M' 61 j = M 61 j) ∧ ∀ k, k ≠ 61 → k ≠ 88 → M' k = M k := by
  have lp := lp_R (fun f j s => F_Mo_keeps_29 f j s) (fun j I => (∀ s, s < j → I 88 (16 * u + s) = M 86 s) ∧ (∀ q, q < 16 * u ∨ 16 * u + 16 ≤ q → I 88 q = M 88 q) ∧ ∀ k, k ≠ 88 → I k = M k) (fun b => b 61 50 = nI (u + 1) ∧ (∀ s, s < 16 → b 88 (16 * u + s) = M 86 s) ∧ (∀ j, j < 16 * u ∨ 16 * u + 16 ≤ j → b 88 j = M 88 j) ∧ (∀ j, j ≠ 50 → b 61 j = M 61 j) ∧ ∀ k, k ≠ 61 → k ≠ 88 → b k = M k) 16 M ⟨fun s hs => absurd hs (by omega), fun _ _ => rfl, fun _ _ => rfl⟩ (by omega) ?_ ?_
  · exact lp
  · intro f I hI
    refine ⟨sd_up I 61 50 (nI (u + 1)), ?_, up_s, fun s hs => by rw [up_n (by omega)]; exact hI.1 s hs, fun j hj => by rw [up_n (by omega)]; exact hI.2.1 j hj, fun j hj => by rw [up_m hj, hI.2.2 61 (by omega)], fun k h1 h3 => by rw [up_n h1]; exact hI.2.2 k h3⟩
    show F_Mo_keeps_29B (F_Mo_keeps_29 f) (nI 16) I = _
    unfold F_Mo_keeps_29B
    rw [if_pos (show (16 : Int32) ≤ nI 16 from Int32.le_refl _), hI.2.2 61 (by omega), h2, nI_1]
    rfl
  · intro f j I hj hI
    left
    refine ⟨sd_up I 88 (16 * u + j) (M 86 j), ⟨fun s hs => ?_, fun q hq => by rw [up_m (by omega)]; exact hI.2.1 q hq, fun k hk => by rw [up_n hk]; exact hI.2.2 k hk⟩, ?_⟩
    · by_cases e : s = j
      · subst e; exact up_s
      · rw [up_m (by omega)]; exact hI.1 s (by omega)
    · show F_Mo_keeps_29B (F_Mo_keeps_29 f) (nI j) I = _
      unfold F_Mo_keeps_29B
      rw [if_neg (show ¬ (16 : Int32) ≤ nI j from nI_ge (b := 16) hj (by omega)), hI.2.2 61 (by omega), hI.2.2 86 (by omega), h2, show (16 : Int32) * nI u + nI j = nI (16 * u + j) from by rw [show (16 : Int32) = nI 16 from rfl, sn_mul, nI_add], sn_gu (sn_in' hj (by omega)), sn_gu (sn_in' (by omega) (by omega)), y_lt, nI_clamp (by omega), nI_clamp (by omega), nI_1]
theorem keep (hn : A 0 0 ≤ 14) (hst : stR (A 0 0) (M 86) (C 9)) (h : ahR (A 0 0) C M) : ∃ C' M', F_Story_keepAct C = some C' ∧ F_Mo_keeps M = some M' ∧ ahR (A 0 0) C' M' ∧ (∀ j, j ≠ 2 → C' 8 j = C 8 j) ∧ (∀ k, k ≠ 8 → k ≠ 10 → C' k = C k) ∧ (∀ j, j ≠ 50 → M' 61 j = M 61 j) ∧ ∀ k, k ≠ 61 → k ≠ 88 → M' k = M k := by
  obtain ⟨u, u1, u2, u3, u4⟩ := h
  by_cases hu : u < 40
  · obtain ⟨C', a1, a2, a3, a4, a5, a6⟩ := c_keep19 hu u2
    obtain ⟨M', b1, b2, b3, b4, b5, b6⟩ := m_keep29 hu u3
    refine ⟨C', M', ?_, ?_, ⟨u + 1, by omega, a2, b2, fun j hj => ?_⟩, a5, a6, b5, b6⟩
    · unfold F_Story_keepAct
      rw [u2, if_pos (show nI u < (40 : Int32) from nI_lt (b := 40) hu (by omega))]
      exact a1
    · unfold F_Mo_keeps
      rw [u3, if_pos (show ¬ nI u = (40 : Int32) from fun z => by have := (nI_eq (b := 40) (by omega) (by omega)).mp z; omega)]
      exact b1
    · by_cases e : j = u
      · subst e
        exact stR_r hn hst b3 a3
      · exact stR_r hn (u4 j (by omega)) (fun s hs => b4 _ (by omega)) (fun s hs => a4 _ (by omega))
  · have hu40 : u = 40 := by omega
    subst hu40
    -- the class moves all by one
    have ec : F_Story_keepAct C = F_Story_keepAct_19 (sd_up (va_up C 10 (va_cpy (C 10) (C 10) 5 0 195)) 8 2 39) := by
      unfold F_Story_keepAct
      rw [u2, if_neg (show ¬ nI 40 < (40 : Int32) by decide), sn_gu (by decide), y_lt, y_lt]
      rfl
    have v10 : ∀ k, k ≠ 10 → va_up C 10 (va_cpy (C 10) (C 10) 5 0 195) k = C k := fun k hk => by unfold va_up; rw [if_neg hk]
    have v11 : ∀ j, j < 195 → va_up C 10 (va_cpy (C 10) (C 10) 5 0 195) 10 j = C 10 (5 + j) := fun j hj => by
      unfold va_up
      rw [if_pos rfl, pk_cpy_in (by omega) (by omega), Nat.sub_zero]
    obtain ⟨C', a1, a2, a3, a4, a5, a6⟩ := c_keep19 (C := sd_up (va_up C 10 (va_cpy (C 10) (C 10) 5 0 195)) 8 2 39) (u := 39) (by omega) up_s
    -- the model too
    have em : ∃ M1, F_Mo_keeps M = F_Mo_keeps_29 sd_fu 0 M1 ∧ M1 61 50 = nI 39 ∧ (∀ j, j < 624 → M1 88 j = M 88 (j + 16)) ∧ (∀ j, j ≠ 50 → M1 61 j = M 61 j) ∧ ∀ k, k ≠ 61 → k ≠ 88 → M1 k = M k := by
      have lp := lp_in (fun f j I => F_Mo_keeps_6 f (nI 16 + j) I) (fun I => F_Mo_keeps_29 sd_fu 0 (sd_up I 61 50 (I 61 50 - 1))) (fun j I => sd_up I 88 j (I 88 (j + 16))) (fun j I => (∀ q, q < j → I 88 q = M 88 (q + 16)) ∧ (∀ q, j ≤ q → I 88 q = M 88 q) ∧ ∀ k, k ≠ 88 → I k = M k) 624 M ⟨fun q hq => absurd hq (by omega), fun _ _ => rfl, fun _ _ => rfl⟩ (by omega) ?_ ?_
      · obtain ⟨lp, p1, p2, p3⟩ := lp
        generalize itr (fun j (I : sm_MI) => sd_up I 88 j (I 88 (j + 16))) 624 M = I at *
        refine ⟨sd_up I 61 50 (I 61 50 - 1), ?_, ?_, fun j hj => by rw [up_n (by omega)]; exact p1 j hj, fun j hj => by rw [up_m hj, p3 61 (by omega)], fun k h1 h3 => by rw [up_n h1]; exact p3 k h3⟩
        · unfold F_Mo_keeps
          rw [u3, if_neg (sn_nn (show nI 40 = (40 : Int32) from rfl))]
          exact lp
        · rw [up_s, p3 61 (by omega), u3]
          decide
      · intro f I _
        show F_Mo_keeps_6B (F_Mo_keeps_6 f) (nI 16 + nI 624) I = _
        unfold F_Mo_keeps_6B
        rw [nI_add, if_pos (show (640 : Int32) ≤ nI (16 + 624) by decide), y_lt]
      · intro f j I hj hI
        refine ⟨⟨fun q hq => ?_, fun q hq => by rw [up_m (by omega)]; exact hI.2.1 q (by omega), fun k hk => by rw [up_n hk]; exact hI.2.2 k hk⟩, ?_⟩
        · by_cases e : q = j
          · subst e; rw [up_s]; exact hI.2.1 _ (by omega)
          · rw [up_m e]; exact hI.1 q (by omega)
        · show F_Mo_keeps_6B (F_Mo_keeps_6 f) (nI 16 + nI j) I = F_Mo_keeps_6 f (nI 16 + nI (j + 1)) _
          unfold F_Mo_keeps_6B
          rw [nI_add, if_neg (show ¬ (640 : Int32) ≤ nI (16 + j) from nI_ge (b := 640) (by omega) (by omega)), show nI (16 + j) - 16 = nI j from by rw [show (16 : Int32) = nI 16 from rfl, sn_sub (by omega), show 16 + j - 16 = j by omega], sn_gu (sn_in' (by omega) (by omega)), sn_gu (sn_in' (by omega) (by omega)), y_lt, nI_clamp (by omega), nI_clamp (by omega), nI_1, nI_add, show 16 + j = j + 16 by omega, show j + 16 + 1 = 16 + (j + 1) by omega]
    obtain ⟨M1, m1, m2, m3, m4, m5⟩ := em
    obtain ⟨M', b1, b2, b3, b4, b5, b6⟩ := m_keep29 (M := M1) (u := 39) (by omega) m2
    have c9 : (sd_up (va_up C 10 (va_cpy (C 10) (C 10) 5 0 195)) 8 2 39) 9 = C 9 := by rw [up_n (by omega), v10 9 (by omega)]
    refine ⟨C', M', by rw [ec]; exact a1, by rw [m1]; exact b1, ⟨40, by omega, a2, b2, fun j hj => ?_⟩, fun j hj => by rw [a5 j hj, up_m hj, v10 8 (by omega)], fun k h8 h10 => by rw [a6 k h8 h10, up_n h8, v10 k h10], fun j hj => by rw [b5 j hj, m4 j hj], fun k h1 h3 => by rw [b6 k h1 h3, m5 k h1 h3]⟩
    by_cases e : j = 39
    · subst e
      refine stR_r hn hst (fun s hs => ?_) (fun s hs => ?_)
      · show M' 88 (16 * 39 + s) = _
        rw [b3 s hs, m5 86 (by omega) (by omega)]
      · show C' 10 (5 * 39 + s) = _
        rw [a3 s hs, c9]
    · refine stR_r hn (u4 (j + 1) (by omega)) (fun s hs => ?_) (fun s hs => ?_)
      · show M' 88 (16 * j + s) = M 88 (16 * (j + 1) + s)
        rw [b4 _ (by omega), m3 _ (by omega), show 16 * j + s + 16 = 16 * (j + 1) + s by omega]
      · show C' 10 (5 * j + s) = C 10 (5 * (j + 1) + s)
        rw [a4 _ (by omega), up_n (by omega), v11 _ (by omega), show 5 + (5 * j + s) = 5 * (j + 1) + s by omega]
theorem Rel.ah (h : Rel A R t C M) : ahR (A 0 0) C M := h.2.1.2.1
/-- what is heard -/
def heR (A : sA) (C M : sm_MI) : Prop := ∃ u, u ≤ 8 ∧ C 8 6 = nI u ∧ M 61 53 = nI u ∧ ∀ k, k < u → ∃ r i v, r < 20 ∧ i < A 7 r ∧ v ≤ 60 ∧ M 91 (3 * k) = nI r ∧ M 91 (3 * k + 1) = nI i ∧ M 91 (3 * k + 2) = nI v ∧ C 11 k = nI r ∧ C 12 k = nI (A 8 (12 * r + i)) ∧ C 13 k = nI v
theorem Rel.he (h : Rel A R t C M) : heR A C M := h.2.1.2.2
theorem heR_s (h : heR A C M) (e1 : C' 8 6 = C 8 6) (e2 : M' 61 53 = M 61 53) (e3 : M' 91 = M 91) (e4 : ∀ k, 11 ≤ k → k ≤ 13 → C' k = C k) : heR A C' M' := by
  unfold heR at h ⊢
  rw [e1, e2, e3, e4 11 (by omega) (by omega), e4 12 (by omega) (by omega), e4 13 (by omega) (by omega)]
  exact h
theorem ahR_s {n : Nat} (h : ahR n C M) (e1 : C' 8 2 = C 8 2) (e2 : M' 61 50 = M 61 50) (e3 : M' 88 = M 88) (e4 : C' 10 = C 10) : ahR n C' M' := by
  unfold ahR at h ⊢
  rw [e1, e2, e3, e4]
  exact h
theorem Rel.re (h : Rel A R t C M) : ∀ k, k < 3 → C 1 k = M 73 k := h.2.2.2.2.1
theorem ref_m (h0 : M 61 0 = 0) {q : Nat} (hq : q < 3) : F_Mo_refuses (nI q) M = some (-1, sd_up M 73 q (M 73 q + 1)) := by
  unfold F_Mo_refuses
  rw [sn_gu (sn_in' hq (by omega)), sn_gu (sn_in' hq (by omega)), y_lt, nI_clamp (by omega)]
theorem Rel.ref (h : Rel A R t C M) {q : Nat} (hq : q < 3) : Rel A R t (sd_up C 1 q (C 1 q + 1)) (sd_up M 73 q (M 73 q + 1)) := by
  have ht := h.tt
  refine h.act (fun k h1 _ _ _ _ _ => up_n h1) (fun k _ h2 _ _ _ _ _ _ _ => up_n h2) (fun j _ _ _ _ => by rw [up_n (by omega)]) ?_ (fun k hk => ?_)
  · rw [up_n (by omega), up_n (by omega), up_n (by omega), up_n (by omega)]
    exact chR_C h.2.1 (fun k hk => up_n (by omega))
  · by_cases e : k = q
    · subst e; rw [up_s, up_s, h.re k hk]
    · rw [up_m e, up_m e, h.re k hk]
/-- an act by which one becomes other than he was -/
theorem Rel.now (h : Rel A R t C M) {C1 M1 : sm_MI} (a1 : ahR (A 0 0) C1 M1) (a2 : ∀ j, j ≠ 2 → C1 8 j = C 8 j) (a3 : ∀ k, k ≠ 8 → k ≠ 10 → C1 k = C k) (b2 : ∀ j, j ≠ 50 → M1 61 j = M 61 j) (b3 : ∀ k, k ≠ 61 → k ≠ 88 → M1 k = M k)
    (fC : ∀ k, k ≠ 9 → k ≠ t + 18 → k ≠ t + 19 → C' k = C1 k) (fM : ∀ k, k ≠ 86 → k ≠ 89 → k ≠ 90 → M' k = M1 k) (hst : stR (A 0 0) (M' 86) (C' 9)) : Rel A R t C' M' := by
  have ht := h.tt
  have e8 : C' 8 = C1 8 := fC 8 (by omega) (by omega) (by omega)
  have e61 : M' 61 = M1 61 := fM 61 (by omega) (by omega) (by omega)
  refine h.act (fun k h1 h2 h3 h4 h5 h6 => by rw [fC k (by omega) h5 h6, a3 k (by omega) (by omega)]) (fun k h1 h2 h3 h4 h5 h6 h7 h8 h9 => by rw [fM k h3 h6 h7, b3 k h1 h5]) (fun j h1 h2 h3 h4 => by rw [e61, b2 j h2]) ?_ (fun k hk => by rw [fC 1 (by omega) (by omega) (by omega), a3 1 (by omega) (by omega), fM 73 (by omega) (by omega) (by omega), b3 73 (by omega) (by omega)]; exact h.re k hk)
  refine ⟨hst, ?_, ?_⟩
  · exact ahR_s a1 (by rw [e8]) (by rw [e61]) (fM 88 (by omega) (by omega) (by omega)) (fC 10 (by omega) (by omega) (by omega))
  · exact heR_s h.he (by rw [e8, a2 6 (by omega)]) (by rw [e61, b2 53 (by omega)]) (by rw [fM 91 (by omega) (by omega) (by omega), b3 91 (by omega) (by omega)]) (fun k h1 h2 => by rw [fC k (by omega) (by omega) (by omega), a3 k (by omega) (by omega)])
theorem ans_v {δ : Type} {o : Option (δ × sm_MI)} {m : Option (Int32 × sm_MI)} {f : δ → Int32 ⊕ Int32} {r : δ} {v : Int32} (h1 : o = some (r, C')) (h2 : m = some (v, M')) (h3 : Rel A R t C' M') (h4 : ∀ k, 61 ≤ k → C' k = C k) (h5 : ∀ k, k < 61 → M' k = M k) (h6 : f r = .inl v) (h7 : M' 61 0 = 0) : ans A R t C M o m f := ⟨r, C', v, M', h1, h2, h3, h4, h5, by rw [h6]; exact ⟨rfl, h7⟩⟩
theorem ans_e {δ : Type} {o : Option (δ × sm_MI)} {m : Option (Int32 × sm_MI)} {f : δ → Int32 ⊕ Int32} {r : δ} {v e : Int32} (h1 : o = some (r, C')) (h2 : m = some (v, M')) (h3 : Rel A R t C' M') (h4 : ∀ k, 61 ≤ k → C' k = C k) (h5 : ∀ k, k < 61 → M' k = M k) (h6 : f r = .inr e) (h7 : M' 61 0 = e) : ans A R t C M o m f := ⟨r, C', v, M', h1, h2, h3, h4, h5, by rw [h6]; exact h7⟩
theorem smM_lt {M0 : sm_MI} (h : smM M0 M) : ∀ k, k < 61 → M k = M0 k := h.2.2
theorem ans_q {δ : Type} {o : Option (δ × sm_MI)} {m : Option (Int32 × sm_MI)} {f : δ → Int32 ⊕ Int32} {r : δ} (h : Rel A R t C M) (h1 : o = some (r, C')) (h2 : csm t C C') (h3 : mq m M (f r)) : ans A R t C M o m f := by
  have ht := h.tt
  obtain ⟨v, M', e1, e2, e3⟩ := h3
  refine ⟨r, C', v, M', h1, e1, (h.onC h2).onM e2, fun k hk => h2 k (by omega) (by omega) (by omega) (by omega), smM_lt e2, ?_⟩
  cases hf : f r with
  | inl w => rw [hf] at e3; exact e3
  | inr e => rw [hf] at e3; exact e3
theorem c_may0 : F_VM_mayAct 0 C = some (0, sd_up C 1 1 (C 1 1 + 1)) := by
  unfold F_VM_mayAct
  rw [if_pos rfl, sn_gu (by decide), sn_gu (by decide), y_lt, nar0]
theorem c_may1 (h : F_Story_keepAct C = some C') : F_VM_mayAct 1 C = some (1, C') := by
  unfold F_VM_mayAct
  rw [if_neg n10, h, sn_q1, nar1]
theorem m_be0 (h0 : M 61 0 = 0) {s : Nat} {x y : Int32} (hs : s < 16) (hx : ¬ M 86 s = x) : F_Mo_becomes (nI s) x y M = some (0, sd_up M 73 1 (M 73 1 + 1)) := by
  have hr := ref_m (M := M) h0 (q := 1) (by omega)
  have hr : F_Mo_refuses 1 M = _ := hr
  unfold F_Mo_becomes
  rw [sn_gu (sn_in' hs (by omega)), nI_clamp (by omega), if_neg hx, hr, sn_q2, if_pos (by decide)]
theorem m_be1 {s : Nat} {x y : Int32} (hs : s < 16) (hx : M 86 s = x) (h : F_Mo_keeps M = some M') : F_Mo_becomes (nI s) x y M = some (1, sd_up M' 86 s y) := by
  unfold F_Mo_becomes
  rw [sn_gu (sn_in' hs (by omega)), nI_clamp (by omega), if_pos hx, h, sn_q1, sn_gu (sn_in' hs (by omega)), y_lt]
theorem stR_set {n s : Nat} {m m' c c' : Nat → Int32} (hn : n ≤ 14) (hs : s < n) (h : stR n m c) (h1 : ∀ q, q ≠ s → m' q = m q) (h2 : ∀ q, q ≠ s → q < 32 → bt (c' 0) q = bt (c 0) q ∧ bt (c' 1) q = bt (c 1) q ∧ bt (c' 2) q = bt (c 2) q) (h3 : c' 3 = c 3) (h4 : c' 4 = c 4)
    (h5 : (m' s = 0 ∧ bt (c' 0) s = true ∧ bt (c' 1) s = false ∧ bt (c' 2) s = false) ∨ (m' s = 1 ∧ bt (c' 0) s = false ∧ bt (c' 1) s = true ∧ bt (c' 2) s = false) ∨ (m' s = nI 2 ∧ bt (c' 0) s = false ∧ bt (c' 1) s = false ∧ bt (c' 2) s = true)) : stR n m' c' := by
  obtain ⟨a1, a2, a3, a4⟩ := h
  refine ⟨fun i hi => ?_, fun q hq => ?_, by rw [h1 14 (by omega), h3]; exact a3, by rw [h1 15 (by omega), h4]; exact a4⟩
  · by_cases h32 : i < 32
    · obtain ⟨b1, b2, b3⟩ := h2 i (by omega) h32
      rw [b1, b2, b3]
      exact a1 i hi
    · exact ⟨b_big (by omega), b_big (by omega), b_big (by omega)⟩
  · by_cases e : q = s
    · subst e; exact h5
    · obtain ⟨b1, b2, b3⟩ := h2 q e (by omega)
      rw [h1 q e, b1, b2, b3]
      exact a2 q hq
theorem bt_or1 {x : Int32} {s q : Nat} (hs : s < 32) (hq : q < 32) : bt (x ||| b1 s) q = (bt x q || decide (s = q)) := by rw [b_or, bt_b1 hs hq]
theorem st3 {n s : Nat} {m c : Nat → Int32} (h : stR n m c) (hs : s < n) : (m s = 0 ↔ bt (c 0) s = true) ∧ (m s = 1 ↔ bt (c 1) s = true) := by
  rcases h.2.1 s hs with ⟨e, a, b, d⟩ | ⟨e, a, b, d⟩ | ⟨e, a, b, d⟩ <;> rw [e, a, b] <;> simp only [n01, n10, n20, n21, Bool.false_eq_true, iff_self, and_self]
theorem x_fall (h : Rel A R t C M) (x : Int32) : ans A R t C M (F_VM_fall t x C) (F_Mo_fall x M) cv := by
  obtain ⟨M1, hM1, h0, h, hs⟩ := h.start
  have hw := h.wa
  have hn := hw.1
  unfold F_VM_fall F_Mo_fall
  rw [hM1]
  rcases ix_or x (n := A 0 0) (by omega) with hx | ⟨s, hs1, rfl⟩
  · refine ans_e (v := 0) (e := 1) (by rw [c_chS0 hw h.ca hx]; rfl) (by simp (disch := omega) only [↓g_in, ↓g_c0, ↓g_c1, ↓reduceIte, ↓y_lt, ↓y_q1, ↓y_q2, ↓sn_q3, ↓sn_t1l, ↓sn_t1r, ↓sn_t2l, ↓sn_t2r, y_q1, y_q2, sn_q3, sn_t1l, sn_t1r, sn_t2l, sn_t2r, nI_clamp, x_leT, x_leF, x_ltT, x_ltF, x_eqT, x_eqF, x_le0T, x_le0F, x_0leT, x_lt0F, x_0ltT, x_0ltF, x_eq0T, x_eq0F, x_le1T, x_le1F, x_1leT, x_1leF, x_1ltT, x_1ltF, x_lt1T, x_lt1F, x_eq1T, x_eq1F, x_m1F, nI_add, nI_1, sn_mul, x_sub, x_sub1, sn_m1, l2, l3, l4, l5, l6, l7, l8, l9, l10, l11, l12, l13, l14, l15, l20, l30, l40, l48, l60, l64, l99, l100, l700, l999, not_true_eq_false, not_false_eq_true, x_t0, x_t1, lts1, x_10, x_1sub, eq_self, Nat.reduceSub, Nat.reduceAdd, Nat.reduceMul, ↓q2_of (m_isS0 hw h.ma h0 hx)]) (h.onM (smM.up (by omega) smM.refl)) (fun _ _ => rfl) (fun k hk => by rw [up_n (by omega), hs.2.2 k hk]) rfl up_s
  · have h3 := st3 h.st hs1
    by_cases c0 : M1 86 s = 0
    · have b0 := h3.1.mp c0
      obtain ⟨C2, M2, k1, k2, k3, k4, k5, k6, k7⟩ := keep hn h.st h.ah
      have e9 : C2 9 = C 9 := k5 9 (by omega) (by omega)
      refine ans_v (r := .inl 1) (C' := sd_up (sd_up C2 9 0 (C2 9 0 &&& (b1 s ^^^ -1))) 9 2 (C2 9 2 ||| b1 s)) (M' := sd_up M2 86 s (nI 2)) ?_ ?_ (h.now k3 k4 k5 k6 k7 (fun k a _ _ => by rw [up_n a, up_n a]) (fun k a _ _ => up_n a) ?_) (fun k hk => by rw [up_n (by omega), up_n (by omega), k5 k (by omega) (by omega)]) (fun k hk => by rw [up_n (by omega), k7 k (by omega) (by omega), hs.2.2 k hk]) rfl (by rw [up_n (by omega), k6 0 (by omega)]; exact h0)
      · unfold F_VM_fall_18 F_State_fell
        simp (disch := omega) only [↓g_in, ↓g_c0, ↓g_c1, ↓reduceIte, ↓y_lt, ↓y_q1, ↓y_q2, ↓sn_q3, ↓sn_t1l, ↓sn_t1r, ↓sn_t2l, ↓sn_t2r, y_q1, y_q2, sn_q3, sn_t1l, sn_t1r, sn_t2l, sn_t2r, nI_clamp, x_leT, x_leF, x_ltT, x_ltF, x_eqT, x_eqF, x_le0T, x_le0F, x_0leT, x_lt0F, x_0ltT, x_0ltF, x_eq0T, x_eq0F, x_le1T, x_le1F, x_1leT, x_1leF, x_1ltT, x_1ltF, x_lt1T, x_lt1F, x_eq1T, x_eq1F, x_m1F, nI_add, nI_1, sn_mul, x_sub, x_sub1, sn_m1, l2, l3, l4, l5, l6, l7, l8, l9, l10, l11, l12, l13, l14, l15, l20, l30, l40, l48, l60, l64, l99, l100, l700, l999, not_true_eq_false, not_false_eq_true, x_t0, x_t1, lts1, x_10, x_1sub, eq_self, Nat.reduceSub, Nat.reduceAdd, Nat.reduceMul, ↓t1_of (c_chS1 hw h.ca hs1), bs0, b0, Bool.true_eq_false, ↓q2_of (c_may1 k1), up_m]
      · have := m_be1 (y := 2) (show s < 16 by omega) c0 k2
        simp (disch := omega) only [↓g_in, ↓g_c0, ↓g_c1, ↓reduceIte, ↓y_lt, ↓y_q1, ↓y_q2, ↓sn_q3, ↓sn_t1l, ↓sn_t1r, ↓sn_t2l, ↓sn_t2r, y_q1, y_q2, sn_q3, sn_t1l, sn_t1r, sn_t2l, sn_t2r, nI_clamp, x_leT, x_leF, x_ltT, x_ltF, x_eqT, x_eqF, x_le0T, x_le0F, x_0leT, x_lt0F, x_0ltT, x_0ltF, x_eq0T, x_eq0F, x_le1T, x_le1F, x_1leT, x_1leF, x_1ltT, x_1ltF, x_lt1T, x_lt1F, x_eq1T, x_eq1F, x_m1F, nI_add, nI_1, sn_mul, x_sub, x_sub1, sn_m1, l2, l3, l4, l5, l6, l7, l8, l9, l10, l11, l12, l13, l14, l15, l20, l30, l40, l48, l60, l64, l99, l100, l700, l999, not_true_eq_false, not_false_eq_true, x_t0, x_t1, lts1, x_10, x_1sub, eq_self, Nat.reduceSub, Nat.reduceAdd, Nat.reduceMul, ↓q2_of (m_isS1 hw h.ma h0 hs1), ↓q2_of this]
      · have ec : ∀ j, (sd_up (sd_up C2 9 0 (C2 9 0 &&& (b1 s ^^^ -1))) 9 2 (C2 9 2 ||| b1 s)) 9 j = if j = 0 then C 9 0 &&& (b1 s ^^^ -1) else if j = 2 then C 9 2 ||| b1 s else C 9 j := fun j => by
          by_cases e0 : j = 0
          · subst e0; rw [up_m (by omega), up_s, e9, if_pos rfl]
          · by_cases e2 : j = 2
            · subst e2; rw [up_s, e9, if_neg e0, if_pos rfl]
            · rw [up_m e2, up_m e0, e9, if_neg e0, if_neg e2]
        refine stR_set hn hs1 h.st (fun q hq => by rw [up_m hq, k7 86 (by omega) (by omega)]) (fun q hq h32 => ?_) (by rw [ec]; rfl) (by rw [ec]; rfl) (Or.inr (Or.inr ⟨up_s, ?_, ?_, ?_⟩))
        · rw [ec 0, ec 1, ec 2]
          refine ⟨?_, rfl, ?_⟩
          · show bt (C 9 0 &&& (b1 s ^^^ -1)) q = _
            rw [bt_n1 (by omega) h32, decide_eq_false (fun z => hq z.symm)]; simp
          · show bt (C 9 2 ||| b1 s) q = _
            rw [bt_or1 (by omega) h32, decide_eq_false (fun z => hq z.symm), Bool.or_false]
        · rw [ec 0]
          show bt (C 9 0 &&& (b1 s ^^^ -1)) s = false
          rw [bt_n1 (by omega) (by omega), decide_eq_true rfl]; simp
        · rw [ec 1]
          show bt (C 9 1) s = false
          rcases h.st.2.1 s hs1 with ⟨_, _, b, _⟩ | ⟨_, a, _, _⟩ | ⟨_, a, _, _⟩
          · exact b
          · rw [a] at b0; cases b0
          · rw [a] at b0; cases b0
        · rw [ec 2]
          show bt (C 9 2 ||| b1 s) s = true
          rw [bt_or1 (by omega) (by omega), decide_eq_true rfl, Bool.or_true]
    · have b0 : bt (C 9 0) s = false := by
        cases e : bt (C 9 0) s
        · rfl
        · exact absurd (h3.1.mpr e) c0
      refine ans_v (r := .inl 0) ?_ ?_ (h.ref (q := 1) (by omega)) (fun k hk => up_n (by omega)) (fun k hk => by rw [up_n (by omega), hs.2.2 k hk]) rfl (by rw [up_n (by omega)]; exact h0)
      · unfold F_VM_fall_18
        simp (disch := omega) only [↓g_in, ↓g_c0, ↓g_c1, ↓reduceIte, ↓y_lt, ↓y_q1, ↓y_q2, ↓sn_q3, ↓sn_t1l, ↓sn_t1r, ↓sn_t2l, ↓sn_t2r, y_q1, y_q2, sn_q3, sn_t1l, sn_t1r, sn_t2l, sn_t2r, nI_clamp, x_leT, x_leF, x_ltT, x_ltF, x_eqT, x_eqF, x_le0T, x_le0F, x_0leT, x_lt0F, x_0ltT, x_0ltF, x_eq0T, x_eq0F, x_le1T, x_le1F, x_1leT, x_1leF, x_1ltT, x_1ltF, x_lt1T, x_lt1F, x_eq1T, x_eq1F, x_m1F, nI_add, nI_1, sn_mul, x_sub, x_sub1, sn_m1, l2, l3, l4, l5, l6, l7, l8, l9, l10, l11, l12, l13, l14, l15, l20, l30, l40, l48, l60, l64, l99, l100, l700, l999, not_true_eq_false, not_false_eq_true, x_t0, x_t1, lts1, x_10, x_1sub, eq_self, Nat.reduceSub, Nat.reduceAdd, Nat.reduceMul, ↓t1_of (c_chS1 hw h.ca hs1), bs0, b0, ↓q2_of c_may0]
      · have := m_be0 (y := 2) h0 (show s < 16 by omega) c0
        simp (disch := omega) only [↓g_in, ↓g_c0, ↓g_c1, ↓reduceIte, ↓y_lt, ↓y_q1, ↓y_q2, ↓sn_q3, ↓sn_t1l, ↓sn_t1r, ↓sn_t2l, ↓sn_t2r, y_q1, y_q2, sn_q3, sn_t1l, sn_t1r, sn_t2l, sn_t2r, nI_clamp, x_leT, x_leF, x_ltT, x_ltF, x_eqT, x_eqF, x_le0T, x_le0F, x_0leT, x_lt0F, x_0ltT, x_0ltF, x_eq0T, x_eq0F, x_le1T, x_le1F, x_1leT, x_1leF, x_1ltT, x_1ltF, x_lt1T, x_lt1F, x_eq1T, x_eq1F, x_m1F, nI_add, nI_1, sn_mul, x_sub, x_sub1, sn_m1, l2, l3, l4, l5, l6, l7, l8, l9, l10, l11, l12, l13, l14, l15, l20, l30, l40, l48, l60, l64, l99, l100, l700, l999, not_true_eq_false, not_false_eq_true, x_t0, x_t1, lts1, x_10, x_1sub, eq_self, Nat.reduceSub, Nat.reduceAdd, Nat.reduceMul, ↓q2_of (m_isS1 hw h.ma h0 hs1), ↓q2_of this]
end AC
