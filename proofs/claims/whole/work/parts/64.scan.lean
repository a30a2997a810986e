/-! ===== the class's scan ===== -/
def kk (b : Nat → Nat) (n k : Nat) : Nat := if tp b n k < n then kd b n (tp b n k) else 33
def tks (b : Nat → Nat) (n : Nat) (C : sm_MI) : Prop := tb b n C ∧ ∃ m, m ≤ 700 ∧ C 4 4 = nI m ∧ tp b n m = n ∧ ∀ k, k < m → tp b n k < n ∧ C 6 k = nI (kd b n (tp b n k)) ∧ C 7 k = nI (tp b n k)
section TP
variable {b : Nat → Nat} {n : Nat} {C : sm_MI}
theorem c_scanL : ∀ d j m C f, j ≤ n → n - j ≤ d → d < f → tb b n C → m ≤ j → C 4 4 = nI m → skp b n j = tp b n m → (∀ k, k < m → tp b n k < n ∧ C 6 k = nI (kd b n (tp b n k)) ∧ C 7 k = nI (tp b n k)) →
    ∃ C', F_Tape_scan_10 f (nI j) C = some C' ∧ tks b n C' ∧ (∀ k, k ≠ 4 → k ≠ 6 → k ≠ 7 → C' k = C k) ∧ ∀ i, i ≠ 4 → C' 4 i = C 4 i := by
  intro d
  induction d with
  | zero =>
    intro j m C f hj hd hf hb hm h4 hs hk
    obtain ⟨f, rfl⟩ : ∃ g, f = g + 1 := ⟨f - 1, by omega⟩
    obtain rfl : j = n := by omega
    have h1 := hb.1
    refine ⟨C, ?_, ⟨hb, m, by omega, h4, ?_, hk⟩, fun _ _ _ _ => rfl, fun _ _ => rfl⟩
    · have hu : ∀ a, F_Tape_scan_10 (f + 1) a C = F_Tape_scan_10B (F_Tape_scan_10 f) a C := fun _ => rfl
      rw [hu]
      unfold F_Tape_scan_10B
      simp (disch := omega) only [↓g_in, ↓g_c0, ↓g_c1, ↓reduceIte, ↓y_lt, ↓y_q1, ↓y_q2, ↓sn_q3, ↓sn_t1l, ↓sn_t1r, ↓sn_t2l, ↓sn_t2r, y_q1, y_q2, sn_q3, sn_t1l, sn_t1r, sn_t2l, sn_t2r, nI_clamp, x_leT, x_leF, x_ltT, x_ltF, x_eqT, x_eqF, x_le0T, x_le0F, x_0leT, x_lt0F, x_0ltT, x_0ltF, x_eq0T, x_eq0F, x_le1T, x_le1F, x_1leT, x_1leF, x_1ltT, x_1ltF, x_lt1T, x_lt1F, x_eq1T, x_eq1F, x_m1F, nI_add, nI_1, sn_mul, x_sub, x_sub1, sn_m1, l2, l3, l4, l5, l6, l7, l8, l9, l10, l11, l12, l13, l14, l15, l20, l30, l40, l48, l60, l64, l99, l100, l700, l999, not_true_eq_false, not_false_eq_true, x_t0, x_t1, lts1, x_10, x_1sub, eq_self, Nat.reduceSub, Nat.reduceAdd, Nat.reduceMul, hb.2.1]
    · have := skp_le (b := b) (Nat.le_refl j)
      omega
  | succ d ih =>
    intro j m C f hj hd hf hb hm h4 hs hk
    have h1 := hb.1
    by_cases e : j = n
    · subst e
      obtain ⟨f, rfl⟩ : ∃ g, f = g + 1 := ⟨f - 1, by omega⟩
      refine ⟨C, ?_, ⟨hb, m, by omega, h4, ?_, hk⟩, fun _ _ _ _ => rfl, fun _ _ => rfl⟩
      · have hu : ∀ a, F_Tape_scan_10 (f + 1) a C = F_Tape_scan_10B (F_Tape_scan_10 f) a C := fun _ => rfl
        rw [hu]
        unfold F_Tape_scan_10B
        simp (disch := omega) only [↓g_in, ↓g_c0, ↓g_c1, ↓reduceIte, ↓y_lt, ↓y_q1, ↓y_q2, ↓sn_q3, ↓sn_t1l, ↓sn_t1r, ↓sn_t2l, ↓sn_t2r, y_q1, y_q2, sn_q3, sn_t1l, sn_t1r, sn_t2l, sn_t2r, nI_clamp, x_leT, x_leF, x_ltT, x_ltF, x_eqT, x_eqF, x_le0T, x_le0F, x_0leT, x_lt0F, x_0ltT, x_0ltF, x_eq0T, x_eq0F, x_le1T, x_le1F, x_1leT, x_1leF, x_1ltT, x_1ltF, x_lt1T, x_lt1F, x_eq1T, x_eq1F, x_m1F, nI_add, nI_1, sn_mul, x_sub, x_sub1, sn_m1, l2, l3, l4, l5, l6, l7, l8, l9, l10, l11, l12, l13, l14, l15, l20, l30, l40, l48, l60, l64, l99, l100, l700, l999, not_true_eq_false, not_false_eq_true, x_t0, x_t1, lts1, x_10, x_1sub, eq_self, Nat.reduceSub, Nat.reduceAdd, Nat.reduceMul, hb.2.1]
      · have := skp_le (b := b) (Nat.le_refl j)
        omega
    · obtain ⟨f, rfl⟩ : ∃ g, f = g + 1 := ⟨f - 1, by omega⟩
      have hjn : j < n := by omega
      have hbj := (hb.2.2 j hjn).1
      have hu : ∀ a, F_Tape_scan_10 (f + 1) a C = F_Tape_scan_10B (F_Tape_scan_10 f) a C := fun _ => rfl
      rw [hu]
      obtain ⟨q, hq⟩ : ∃ q, n - j = q + 1 := ⟨n - j - 1, by omega⟩
      unfold F_Tape_scan_10B
      cases g : blk (b j)
      · have hn2 : ¬ b j = 32 ∧ ¬ b j = 10 := by unfold blk at g; simp at g; exact g
        have hsk : tp b n m = j := by
          rw [← hs]; unfold skp; rw [hq]; unfold rn; rw [g, if_neg (by decide)]
        obtain ⟨r, e1, e2, e3⟩ := c_endT hb hjn
        have h3 := te_le (b := b) hjn
        have mx : F_Math_max (nI j + 1) (nI r) = some (nI (te b n j)) := by
          unfold F_Math_max
          rw [← e3]
          by_cases h5 : j + 1 < r
          · simp (disch := omega) only [↓g_in, ↓g_c0, ↓g_c1, ↓reduceIte, ↓y_lt, ↓y_q1, ↓y_q2, ↓sn_q3, ↓sn_t1l, ↓sn_t1r, ↓sn_t2l, ↓sn_t2r, y_q1, y_q2, sn_q3, sn_t1l, sn_t1r, sn_t2l, sn_t2r, nI_clamp, x_leT, x_leF, x_ltT, x_ltF, x_eqT, x_eqF, x_le0T, x_le0F, x_0leT, x_lt0F, x_0ltT, x_0ltF, x_eq0T, x_eq0F, x_le1T, x_le1F, x_1leT, x_1leF, x_1ltT, x_1ltF, x_lt1T, x_lt1F, x_eq1T, x_eq1F, x_m1F, nI_add, nI_1, sn_mul, x_sub, x_sub1, sn_m1, l2, l3, l4, l5, l6, l7, l8, l9, l10, l11, l12, l13, l14, l15, l20, l30, l40, l48, l60, l64, l99, l100, l700, l999, not_true_eq_false, not_false_eq_true, x_t0, x_t1, lts1, x_10, x_1sub, eq_self, Nat.reduceSub, Nat.reduceAdd, Nat.reduceMul, h5]
          · simp (disch := omega) only [↓g_in, ↓g_c0, ↓g_c1, ↓reduceIte, ↓y_lt, ↓y_q1, ↓y_q2, ↓sn_q3, ↓sn_t1l, ↓sn_t1r, ↓sn_t2l, ↓sn_t2r, y_q1, y_q2, sn_q3, sn_t1l, sn_t1r, sn_t2l, sn_t2r, nI_clamp, x_leT, x_leF, x_ltT, x_ltF, x_eqT, x_eqF, x_le0T, x_le0F, x_0leT, x_lt0F, x_0ltT, x_0ltF, x_eq0T, x_eq0F, x_le1T, x_le1F, x_1leT, x_1leF, x_1ltT, x_1ltF, x_lt1T, x_lt1F, x_eq1T, x_eq1F, x_m1F, nI_add, nI_1, sn_mul, x_sub, x_sub1, sn_m1, l2, l3, l4, l5, l6, l7, l8, l9, l10, l11, l12, l13, l14, l15, l20, l30, l40, l48, l60, l64, l99, l100, l700, l999, not_true_eq_false, not_false_eq_true, x_t0, x_t1, lts1, x_10, x_1sub, eq_self, Nat.reduceSub, Nat.reduceAdd, Nat.reduceMul, h5]
        have kp : F_Tape_keep (nI (kd b n j)) (nI j) C = some (sd_up (sd_up (sd_up C 6 m (nI (kd b n j))) 7 m (nI j)) 4 4 (nI (m + 1))) := by
          unfold F_Tape_keep
          simp (disch := omega) only [↓g_in, ↓g_c0, ↓g_c1, ↓reduceIte, ↓y_lt, ↓y_q1, ↓y_q2, ↓sn_q3, ↓sn_t1l, ↓sn_t1r, ↓sn_t2l, ↓sn_t2r, y_q1, y_q2, sn_q3, sn_t1l, sn_t1r, sn_t2l, sn_t2r, nI_clamp, x_leT, x_leF, x_ltT, x_ltF, x_eqT, x_eqF, x_le0T, x_le0F, x_0leT, x_lt0F, x_0ltT, x_0ltF, x_eq0T, x_eq0F, x_le1T, x_le1F, x_1leT, x_1leF, x_1ltT, x_1ltF, x_lt1T, x_lt1F, x_eq1T, x_eq1F, x_m1F, nI_add, nI_1, sn_mul, x_sub, x_sub1, sn_m1, l2, l3, l4, l5, l6, l7, l8, l9, l10, l11, l12, l13, l14, l15, l20, l30, l40, l48, l60, l64, l99, l100, l700, l999, not_true_eq_false, not_false_eq_true, x_t0, x_t1, lts1, x_10, x_1sub, eq_self, Nat.reduceSub, Nat.reduceAdd, Nat.reduceMul, h4, up_n, up_s]
        have ihh := ih (te b n j) (m + 1) (sd_up (sd_up (sd_up C 6 m (nI (kd b n j))) 7 m (nI j)) 4 4 (nI (m + 1))) f h3.2 (by omega) (by omega)
          ⟨h1, by rw [up_m (by omega), up_n (by omega), up_n (by omega)]; exact hb.2.1, fun i hi => by rw [up_n (by omega), up_n (by omega), up_n (by omega)]; exact hb.2.2 i hi⟩ (by omega) up_s
          (by show _ = (if tp b n m < n then skp b n (te b n (tp b n m)) else n); rw [hsk, if_pos hjn])
          (fun k hk2 => by
            rw [up_n (show (6:Nat) ≠ 4 by omega), up_n (show (7:Nat) ≠ 4 by omega), up_n (show (6:Nat) ≠ 7 by omega)]
            by_cases e5 : k = m
            · rw [e5, hsk]; exact ⟨hjn, up_s, up_s⟩
            · obtain ⟨k1, k2, k3⟩ := hk k (by omega)
              rw [up_m e5, up_m e5, up_n (show (7:Nat) ≠ 6 by omega)]
              exact ⟨k1, k2, k3⟩)
        obtain ⟨C', i1, i2, i3, i4⟩ := ihh
        refine ⟨C', ?_, i2, fun k k1 k2 k3 => by rw [i3 k k1 k2 k3, up_n k1, up_n k3, up_n k2], fun i hi => by rw [i4 i hi, up_m hi, up_n (by omega), up_n (by omega)]⟩
        have n1 : ¬ nI (b j) = 32 := fun z => hn2.1 ((nI_eq (b := 32) (by omega) (by omega)).mp z)
        have n2 : ¬ nI (b j) = 10 := fun z => hn2.2 ((nI_eq (b := 10) (by omega) (by omega)).mp z)
        rw [hb.2.1, if_neg (nI_ge hjn (by omega)), q1_of (c_byte hb hjn), if_neg n1, if_pos n2, q1_of e1, q1_of mx, q1_of (c_kind hb hjn), q1_of kp]
        exact i1
      · have hn2 : b j = 32 ∨ b j = 10 := by unfold blk at g; simpa using g
        obtain ⟨C', i1, i2⟩ := ih (j + 1) m C f (by omega) (by omega) (by omega) hb (by omega) h4 (by
          rw [← hs]; unfold skp; rw [hq, show n - (j + 1) = q by omega]; conv => rhs; unfold rn
          rw [g, if_pos rfl]) hk
        refine ⟨C', ?_, i2⟩
        rw [hb.2.1, if_neg (nI_ge hjn (by omega)), q1_of (c_byte hb hjn)]
        rcases hn2 with h5 | h5
        · rw [h5, if_pos (show nI 32 = 32 from rfl), show nI j + 1 = nI (j + 1) from nI_add j 1]; exact i1
        · rw [h5, if_neg (show ¬ nI 10 = 32 by decide), if_neg (sn_nn (show nI 10 = 10 from rfl)), show nI j + 1 = nI (j + 1) from nI_add j 1]; exact i1
theorem c_scan {f : Nat} (hn : n ≤ 700) (hf : n ≤ f) (hb : ∀ j, j < n → b j < 256 ∧ C 5 j = nI (b j)) : ∃ C', F_Tape_scan (nI n) C = some C' ∧ tks b n C' ∧ (∀ k, k ≠ 4 → k ≠ 6 → k ≠ 7 → C' k = C k) ∧ ∀ i, i ≠ 4 → i ≠ 5 → C' 4 i = C 4 i := by
  obtain ⟨C', h1, h2, h3, h4⟩ := c_scanL (b := b) (n := n) n 0 0 (sd_up (sd_up C 4 4 0) 4 5 (nI n)) sd_fu (Nat.zero_le _) (by omega) (by rw [sd_fu_val]; omega) ⟨hn, up_s, fun j hj => by rw [up_n (by omega), up_n (by omega)]; exact hb j hj⟩
    (Nat.le_refl _) (by rw [up_m (by omega)]; exact up_s) rfl (fun k hk => absurd hk (by omega))
  refine ⟨C', ?_, h2, fun k k1 k2 k3 => by rw [h3 k k1 k2 k3, up_n k1, up_n k1], fun i i1 i2 => by rw [h4 i i1, up_m i2, up_m i1]⟩
  have mn : F_Math_min (nI n) 700 = some (nI n) := by
    unfold F_Math_min
    simp (disch := omega) only [↓g_in, ↓g_c0, ↓g_c1, ↓reduceIte, ↓y_lt, ↓y_q1, ↓y_q2, ↓sn_q3, ↓sn_t1l, ↓sn_t1r, ↓sn_t2l, ↓sn_t2r, y_q1, y_q2, sn_q3, sn_t1l, sn_t1r, sn_t2l, sn_t2r, nI_clamp, x_leT, x_leF, x_ltT, x_ltF, x_eqT, x_eqF, x_le0T, x_le0F, x_0leT, x_lt0F, x_0ltT, x_0ltF, x_eq0T, x_eq0F, x_le1T, x_le1F, x_1leT, x_1leF, x_1ltT, x_1ltF, x_lt1T, x_lt1F, x_eq1T, x_eq1F, x_m1F, nI_add, nI_1, sn_mul, x_sub, x_sub1, sn_m1, l2, l3, l4, l5, l6, l7, l8, l9, l10, l11, l12, l13, l14, l15, l20, l30, l40, l48, l60, l64, l99, l100, l700, l999, not_true_eq_false, not_false_eq_true, x_t0, x_t1, lts1, x_10, x_1sub, eq_self, Nat.reduceSub, Nat.reduceAdd, Nat.reduceMul]
  unfold F_Tape_scan
  rw [y_lt, q1_of mn, y_lt]
  exact h1
theorem kk_end {k : Nat} (h : kk b n k = 33) (hb : ∀ j, j < n → b j < 256) : tp b n k = n := by
  by_cases e : tp b n k < n
  · unfold kk at h
    rw [if_pos e] at h
    exfalso
    have h2 := wif_le (b := b) (i := tp b n k) (l := te b n (tp b n k) - tp b n k) 24 0
    unfold kd at h
    have := hb _ e
    split at h
    · omega
    · split at h
      · split at h <;> omega
      · split at h <;> omega
  · have := tp_le (b := b) (n := n) k
    omega
theorem kk_lt {k : Nat} (hb : ∀ j, j < n → b j < 256) : kk b n k < 20000 := by
  unfold kk
  split
  · rename_i h; exact kd_lt h hb
  · omega
theorem tks.lt (h : tks b n C) {k : Nat} : kk b n k < 20000 := kk_lt (fun j hj => (h.1.2.2 j hj).1)
theorem tks_k {k : Nat} (h : tks b n C) (hk : k < 2 ^ 31) : F_Tape_kindOf (nI k) C = some (nI (kk b n k)) := by
  obtain ⟨h1, m, h2, h3, h4, h5⟩ := h
  unfold F_Tape_kindOf kk
  by_cases e : k < m
  · obtain ⟨a1, a2, a3⟩ := h5 k e
    rw [if_pos a1]
    simp (disch := omega) only [↓g_in, ↓g_c0, ↓g_c1, ↓reduceIte, ↓y_lt, ↓y_q1, ↓y_q2, ↓sn_q3, ↓sn_t1l, ↓sn_t1r, ↓sn_t2l, ↓sn_t2r, y_q1, y_q2, sn_q3, sn_t1l, sn_t1r, sn_t2l, sn_t2r, nI_clamp, x_leT, x_leF, x_ltT, x_ltF, x_eqT, x_eqF, x_le0T, x_le0F, x_0leT, x_lt0F, x_0ltT, x_0ltF, x_eq0T, x_eq0F, x_le1T, x_le1F, x_1leT, x_1leF, x_1ltT, x_1ltF, x_lt1T, x_lt1F, x_eq1T, x_eq1F, x_m1F, nI_add, nI_1, sn_mul, x_sub, x_sub1, sn_m1, l2, l3, l4, l5, l6, l7, l8, l9, l10, l11, l12, l13, l14, l15, l20, l30, l40, l48, l60, l64, l99, l100, l700, l999, not_true_eq_false, not_false_eq_true, x_t0, x_t1, lts1, x_10, x_1sub, eq_self, Nat.reduceSub, Nat.reduceAdd, Nat.reduceMul, h3, a2]
  · obtain ⟨j, rfl⟩ : ∃ j, k = m + j := ⟨k - m, by omega⟩
    have := tp_end h4 j
    rw [if_neg (show ¬ tp b n (m + j) < n by omega)]
    simp (disch := omega) only [↓g_in, ↓g_c0, ↓g_c1, ↓reduceIte, ↓y_lt, ↓y_q1, ↓y_q2, ↓sn_q3, ↓sn_t1l, ↓sn_t1r, ↓sn_t2l, ↓sn_t2r, y_q1, y_q2, sn_q3, sn_t1l, sn_t1r, sn_t2l, sn_t2r, nI_clamp, x_leT, x_leF, x_ltT, x_ltF, x_eqT, x_eqF, x_le0T, x_le0F, x_0leT, x_lt0F, x_0ltT, x_0ltF, x_eq0T, x_eq0F, x_le1T, x_le1F, x_1leT, x_1leF, x_1ltT, x_1ltF, x_lt1T, x_lt1F, x_eq1T, x_eq1F, x_m1F, nI_add, nI_1, sn_mul, x_sub, x_sub1, sn_m1, l2, l3, l4, l5, l6, l7, l8, l9, l10, l11, l12, l13, l14, l15, l20, l30, l40, l48, l60, l64, l99, l100, l700, l999, not_true_eq_false, not_false_eq_true, x_t0, x_t1, lts1, x_10, x_1sub, eq_self, Nat.reduceSub, Nat.reduceAdd, Nat.reduceMul, h3, l33]
theorem tks_p {k : Nat} (h : tks b n C) (hk : k < 2 ^ 31) : F_Tape_placeOf (nI k) C = some (nI (tp b n k)) := by
  obtain ⟨h1, m, h2, h3, h4, h5⟩ := h
  unfold F_Tape_placeOf
  by_cases e : k < m
  · obtain ⟨a1, a2, a3⟩ := h5 k e
    simp (disch := omega) only [↓g_in, ↓g_c0, ↓g_c1, ↓reduceIte, ↓y_lt, ↓y_q1, ↓y_q2, ↓sn_q3, ↓sn_t1l, ↓sn_t1r, ↓sn_t2l, ↓sn_t2r, y_q1, y_q2, sn_q3, sn_t1l, sn_t1r, sn_t2l, sn_t2r, nI_clamp, x_leT, x_leF, x_ltT, x_ltF, x_eqT, x_eqF, x_le0T, x_le0F, x_0leT, x_lt0F, x_0ltT, x_0ltF, x_eq0T, x_eq0F, x_le1T, x_le1F, x_1leT, x_1leF, x_1ltT, x_1ltF, x_lt1T, x_lt1F, x_eq1T, x_eq1F, x_m1F, nI_add, nI_1, sn_mul, x_sub, x_sub1, sn_m1, l2, l3, l4, l5, l6, l7, l8, l9, l10, l11, l12, l13, l14, l15, l20, l30, l40, l48, l60, l64, l99, l100, l700, l999, not_true_eq_false, not_false_eq_true, x_t0, x_t1, lts1, x_10, x_1sub, eq_self, Nat.reduceSub, Nat.reduceAdd, Nat.reduceMul, h3, a3]
  · obtain ⟨j, rfl⟩ : ∃ j, k = m + j := ⟨k - m, by omega⟩
    have := tp_end h4 j
    rw [this]
    simp (disch := omega) only [↓g_in, ↓g_c0, ↓g_c1, ↓reduceIte, ↓y_lt, ↓y_q1, ↓y_q2, ↓sn_q3, ↓sn_t1l, ↓sn_t1r, ↓sn_t2l, ↓sn_t2r, y_q1, y_q2, sn_q3, sn_t1l, sn_t1r, sn_t2l, sn_t2r, nI_clamp, x_leT, x_leF, x_ltT, x_ltF, x_eqT, x_eqF, x_le0T, x_le0F, x_0leT, x_lt0F, x_0ltT, x_0ltF, x_eq0T, x_eq0F, x_le1T, x_le1F, x_1leT, x_1leF, x_1ltT, x_1ltF, x_lt1T, x_lt1F, x_eq1T, x_eq1F, x_m1F, nI_add, nI_1, sn_mul, x_sub, x_sub1, sn_m1, l2, l3, l4, l5, l6, l7, l8, l9, l10, l11, l12, l13, l14, l15, l20, l30, l40, l48, l60, l64, l99, l100, l700, l999, not_true_eq_false, not_false_eq_true, x_t0, x_t1, lts1, x_10, x_1sub, eq_self, Nat.reduceSub, Nat.reduceAdd, Nat.reduceMul, h3, h1.2.1]
theorem tks_of {C' : sm_MI} (h : tks b n C) (e4 : C' 4 = C 4) (e5 : C' 5 = C 5) (e6 : C' 6 = C 6) (e7 : C' 7 = C 7) : tks b n C' := by
  unfold tks tb at h ⊢
  rw [e4, e5, e6, e7]
  exact h
theorem kk_n {k : Nat} (h : kk b n k ≠ 33) : k < n := by
  by_cases e : tp b n k < n
  · have := tp_ge (b := b) (n := n) k
    omega
  · unfold kk at h
    rw [if_neg e] at h
    exact absurd rfl h
end TP
