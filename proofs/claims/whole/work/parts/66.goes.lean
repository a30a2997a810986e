/-! ===== the model goes on to the next token ===== -/
def so (q : Nat) : Nat := if q < 25 then 1 else if q = 31 then 2 else if q = 32 then 4 else if q = 33 then 0 else if q < 10000 then 3 else 2
def mtb (b : Nat → Nat) (n : Nat) (M : sm_MI) : Prop := n ≤ 700 ∧ M 61 19 = nI n ∧ ∀ j, j < n → b j < 256 ∧ M 72 j = nI (b j)
def ksm (M M' : sm_MI) : Prop := (∀ k, k ≠ 61 → M' k = M k) ∧ ∀ j, (j < 20 ∨ 25 < j) → M' 61 j = M 61 j
def jsm (J J' : sm_MJ) : Prop := ∀ k j, (k = 61 → j ≠ 26) → J' k j = J k j
/-- the model stands at token k -/
def tok (b : Nat → Nat) (n k : Nat) (M : sm_MI) (J : sm_MJ) : Prop := mtb b n M ∧ (∃ e, e ≤ n ∧ M 61 20 = nI e ∧ skp b n e = tp b n (k + 1)) ∧ M 61 22 = nI (tp b n k) ∧ M 61 21 = nI (so (kk b n k)) ∧
  (kk b n k = 31 → ∃ l, 4 < l ∧ l ≤ 700 ∧ M 61 23 = nI l) ∧ (10000 ≤ kk b n k → (∃ l, l ≤ 4 ∧ M 61 23 = nI l) ∧ M 61 24 = nI (kk b n k - 10000)) ∧ (so (kk b n k) = 3 → M 61 25 = nI (kk b n k - 1000)) ∧ F_Mo_knownWord M J = some (mkw (kk b n k))
section GO
variable {b : Nat → Nat} {n : Nat} {M M' M2 : sm_MI} {J J' J2 : sm_MJ}
theorem ksm.refl : ksm M M := ⟨fun _ _ => rfl, fun _ _ => rfl⟩
theorem ksm.trans (h : ksm M M') (g : ksm M' M2) : ksm M M2 := ⟨fun k hk => by rw [g.1 k hk, h.1 k hk], fun j hj => by rw [g.2 j hj, h.2 j hj]⟩
theorem ksm.up {j : Nat} {x : Int32} (h : ksm M M') (hj : 20 ≤ j ∧ j ≤ 25) : ksm M (sd_up M' 61 j x) := ⟨fun k hk => by rw [up_n hk, h.1 k hk], fun i hi => by rw [up_m (by omega), h.2 i hi]⟩
theorem jsm.refl : jsm J J := fun _ _ _ => rfl
theorem jsm.trans (h : jsm J J') (g : jsm J' J2) : jsm J J2 := fun k j hk => by rw [g k j hk, h k j hk]
theorem upJ_s {k j : Nat} {x : Int64} : sd_upJ J k j x k j = x := by unfold sd_upJ va_up vp_updL; rw [if_pos rfl, if_pos rfl]
theorem upJ_n {k j k' j' : Nat} {x : Int64} (h : k' = k → j' ≠ j) : sd_upJ J k j x k' j' = J k' j' := by
  unfold sd_upJ va_up vp_updL
  by_cases e : k' = k
  · rw [if_pos e, if_neg (h e), e]
  · rw [if_neg e]
theorem jsm.up {x : Int64} (h : jsm J J') : jsm J (sd_upJ J' 61 26 x) := fun k j hk => by rw [upJ_n hk, h k j hk]
theorem mtb.of (h : mtb b n M) (g : ksm M M') : mtb b n M' := by
  unfold mtb at h ⊢
  rw [g.2 19 (by omega), g.1 72 (by omega)]
  exact h
theorem m_byte {j : Nat} (h : mtb b n M) (hj : j < n) : F_Mo_byteAt (nI j) M = some (nI (b j)) := by
  obtain ⟨h1, h2, h3⟩ := h
  unfold F_Mo_byteAt
  simp (disch := omega) only [↓g_in, ↓g_c0, ↓g_c1, ↓reduceIte, ↓y_lt, ↓y_q1, ↓y_q2, ↓sn_q3, ↓sn_t1l, ↓sn_t1r, ↓sn_t2l, ↓sn_t2r, y_q1, y_q2, sn_q3, sn_t1l, sn_t1r, sn_t2l, sn_t2r, nI_clamp, x_leT, x_leF, x_ltT, x_ltF, x_eqT, x_eqF, x_le0T, x_le0F, x_0leT, x_lt0F, x_0ltT, x_0ltF, x_eq0T, x_eq0F, x_le1T, x_le1F, x_1leT, x_1leF, x_1ltT, x_1ltF, x_lt1T, x_lt1F, x_eq1T, x_eq1F, x_m1F, nI_add, nI_1, sn_mul, x_sub, x_sub1, sn_m1, l2, l3, l4, l5, l6, l7, l8, l9, l10, l11, l12, l13, l14, l15, l20, l30, l40, l48, l60, l64, l99, l100, l700, l999, not_true_eq_false, not_false_eq_true, x_t0, x_t1, lts1, x_10, x_1sub, eq_self, Nat.reduceSub, Nat.reduceAdd, Nat.reduceMul, h2, (h3 j hj).2]
theorem m_byte0 {j : Nat} (h : mtb b n M) (hj : n ≤ j) (hj2 : j < 2 ^ 31) : F_Mo_byteAt (nI j) M = some 0 := by
  obtain ⟨h1, h2, h3⟩ := h
  unfold F_Mo_byteAt
  simp (disch := omega) only [↓g_in, ↓g_c0, ↓g_c1, ↓reduceIte, ↓y_lt, ↓y_q1, ↓y_q2, ↓sn_q3, ↓sn_t1l, ↓sn_t1r, ↓sn_t2l, ↓sn_t2r, y_q1, y_q2, sn_q3, sn_t1l, sn_t1r, sn_t2l, sn_t2r, nI_clamp, x_leT, x_leF, x_ltT, x_ltF, x_eqT, x_eqF, x_le0T, x_le0F, x_0leT, x_lt0F, x_0ltT, x_0ltF, x_eq0T, x_eq0F, x_le1T, x_le1F, x_1leT, x_1leF, x_1ltT, x_1ltF, x_lt1T, x_lt1F, x_eq1T, x_eq1F, x_m1F, nI_add, nI_1, sn_mul, x_sub, x_sub1, sn_m1, l2, l3, l4, l5, l6, l7, l8, l9, l10, l11, l12, l13, l14, l15, l20, l30, l40, l48, l60, l64, l99, l100, l700, l999, not_true_eq_false, not_false_eq_true, x_t0, x_t1, lts1, x_10, x_1sub, eq_self, Nat.reduceSub, Nat.reduceAdd, Nat.reduceMul, h2]
theorem m_letter {x : Nat} (h : x < 256) : F_Mo_isLetter (nI x) = some (if ltr x then 1 else 0) := c_letter h
theorem m_digit {x : Nat} (h : x < 256) : F_Mo_isDigit (nI x) = some (if dgt x then 1 else 0) := c_digit h
theorem m_r170 {q p : Nat} (h1 : M 61 20 = nI q) (h2 : M 61 22 = nI p) (h : p ≤ q) : F_Mo_goes_170 M J = some (sd_up M 61 23 (nI (q - p)), J) := by
  unfold F_Mo_goes_170
  simp (disch := omega) only [↓g_in, ↓g_c0, ↓g_c1, ↓reduceIte, ↓y_lt, ↓y_q1, ↓y_q2, ↓sn_q3, ↓sn_t1l, ↓sn_t1r, ↓sn_t2l, ↓sn_t2r, y_q1, y_q2, sn_q3, sn_t1l, sn_t1r, sn_t2l, sn_t2r, nI_clamp, x_leT, x_leF, x_ltT, x_ltF, x_eqT, x_eqF, x_le0T, x_le0F, x_0leT, x_lt0F, x_0ltT, x_0ltF, x_eq0T, x_eq0F, x_le1T, x_le1F, x_1leT, x_1leF, x_1ltT, x_1ltF, x_lt1T, x_lt1F, x_eq1T, x_eq1F, x_m1F, nI_add, nI_1, sn_mul, x_sub, x_sub1, sn_m1, l2, l3, l4, l5, l6, l7, l8, l9, l10, l11, l12, l13, l14, l15, l20, l30, l40, l48, l60, l64, l99, l100, l700, l999, not_true_eq_false, not_false_eq_true, x_t0, x_t1, lts1, x_10, x_1sub, eq_self, Nat.reduceSub, Nat.reduceAdd, Nat.reduceMul, h1, h2]
theorem pk_sl {a d : Nat} (ha : a < 34359738368) (hd : d < 32) : (lN a <<< (Int32.toInt64 5 &&& 63)) ||| lN d = lN (a * 32 + d) := by
  apply Int64.toBitVec_inj.1
  rw [Int64.toBitVec_or, Int64.toBitVec_shiftLeft]
  show (BitVec.ofNat 64 a <<< ((Int32.toInt64 5 &&& 63).toBitVec.smod 64).toNat) ||| BitVec.ofNat 64 d = BitVec.ofNat 64 (a * 32 + d)
  rw [show ((Int32.toInt64 5 &&& 63).toBitVec.smod 64).toNat = 5 by decide +kernel]
  apply BitVec.eq_of_toNat_eq
  rw [BitVec.toNat_or, BitVec.toNat_shiftLeft, BitVec.toNat_ofNat, BitVec.toNat_ofNat, BitVec.toNat_ofNat, Nat.mod_eq_of_lt (show a < 2 ^ 64 by omega), Nat.mod_eq_of_lt (show d < 2 ^ 64 by omega), Nat.mod_eq_of_lt (show a * 32 + d < 2 ^ 64 by omega),
    Nat.mod_eq_of_lt (show a <<< 5 < 2 ^ 64 by rw [Nat.shiftLeft_eq]; omega), ← Nat.shiftLeft_add_eq_or_of_lt (i := 5) (show d < 2 ^ 5 by omega), Nat.shiftLeft_eq]
theorem m_r54 {p : Nat} : ∀ m j M J f, j + m = n → m < f → mtb b n M → M 61 20 = nI j → M 61 22 = nI p → p ≤ j → (∀ i, p ≤ i → i < j → ltr (b i) = true) → (j - p ≤ 7 → J 61 26 = lN (pkn b (j - p) p 0)) →
    ∃ M' J', F_Mo_goes_54 f M J = some (M', J') ∧ M' 61 20 = nI (rn ltr b m j) ∧ M' 61 21 = 1 ∧ M' 61 22 = nI p ∧ M' 61 23 = nI (rn ltr b m j - p) ∧ (rn ltr b m j - p ≤ 7 → J' 61 26 = lN (pkn b (rn ltr b m j - p) p 0)) ∧ ksm M M' ∧ jsm J J' := by
  intro m
  induction m with
  | zero =>
    intro j M J f hj hf hb h20 h22 hp hl hJ
    obtain ⟨f, rfl⟩ : ∃ g, f = g + 1 := ⟨f - 1, by omega⟩
    have h1 := hb.1
    refine ⟨sd_up (sd_up M 61 21 1) 61 23 (nI (j - p)), J, ?_, ?_, ?_, ?_, up_s, hJ, (ksm.refl.up (by omega)).up (by omega), jsm.refl⟩
    · have hu : F_Mo_goes_54 (f + 1) M J = F_Mo_goes_54B (F_Mo_goes_54 f) M J := rfl
      rw [hu]
      unfold F_Mo_goes_54B
      rw [h20, q1_of (m_byte0 hb (by omega) (by omega)), q1_of (show F_Mo_isLetter 0 = some 0 by decide +kernel), if_pos rfl, y_lt]
      exact m_r170 (by rw [up_m (by omega)]; exact h20) (by rw [up_m (by omega)]; exact h22) hp
    · rw [up_m (by omega), up_m (by omega)]; exact h20
    · rw [up_m (by omega)]; exact up_s
    · rw [up_m (by omega), up_m (by omega)]; exact h22
  | succ m ih =>
    intro j M J f hj hf hb h20 h22 hp hl hJ
    obtain ⟨f, rfl⟩ : ∃ g, f = g + 1 := ⟨f - 1, by omega⟩
    have h1 := hb.1
    have hbj := (hb.2.2 j (by omega)).1
    have cl := m_letter hbj
    have hu : F_Mo_goes_54 (f + 1) M J = F_Mo_goes_54B (F_Mo_goes_54 f) M J := rfl
    rw [hu]
    unfold F_Mo_goes_54B rn
    cases e : ltr (b j)
    · rw [e] at cl
      have cl : F_Mo_isLetter (nI (b j)) = some 0 := cl
      rw [if_neg (show ¬ (false = true) by decide)]
      refine ⟨sd_up (sd_up M 61 21 1) 61 23 (nI (j - p)), J, ?_, ?_, ?_, ?_, up_s, hJ, (ksm.refl.up (by omega)).up (by omega), jsm.refl⟩
      · rw [h20, q1_of (m_byte hb (by omega)), q1_of cl, if_pos rfl, y_lt]
        exact m_r170 (by rw [up_m (by omega)]; exact h20) (by rw [up_m (by omega)]; exact h22) hp
      · rw [up_m (by omega), up_m (by omega)]; exact h20
      · rw [up_m (by omega)]; exact up_s
      · rw [up_m (by omega), up_m (by omega)]; exact h22
    · rw [e] at cl
      have cl : F_Mo_isLetter (nI (b j)) = some 1 := cl
      rw [if_pos rfl]
      have hll : ∀ i, p ≤ i → i < j + 1 → ltr (b i) = true := fun i i1 i2 => by
        by_cases g : i = j
        · rw [g]; exact e
        · exact hl i i1 (by omega)
      have hle := ltr_iff.mp e
      by_cases g : 7 ≤ j - p
      · obtain ⟨M', J', k1, k2, k3, k4, k5, k6, k7, k8⟩ := ih (j + 1) (sd_up M 61 20 (nI (j + 1))) J f (by omega) (by omega) (hb.of (ksm.refl.up (by omega))) up_s (by rw [up_m (by omega)]; exact h22) (by omega) hll (fun z => absurd z (by omega))
        refine ⟨M', J', ?_, k2, k3, k4, k5, k6, (ksm.refl.up (by omega)).trans k7, k8⟩
        unfold F_Mo_goes_81
        simp (disch := omega) only [↓g_in, ↓g_c0, ↓g_c1, ↓reduceIte, ↓y_lt, ↓y_q1, ↓y_q2, ↓sn_q3, ↓sn_t1l, ↓sn_t1r, ↓sn_t2l, ↓sn_t2r, y_q1, y_q2, sn_q3, sn_t1l, sn_t1r, sn_t2l, sn_t2r, nI_clamp, x_leT, x_leF, x_ltT, x_ltF, x_eqT, x_eqF, x_le0T, x_le0F, x_0leT, x_lt0F, x_0ltT, x_0ltF, x_eq0T, x_eq0F, x_le1T, x_le1F, x_1leT, x_1leF, x_1ltT, x_1ltF, x_lt1T, x_lt1F, x_eq1T, x_eq1F, x_m1F, nI_add, nI_1, sn_mul, x_sub, x_sub1, sn_m1, l2, l3, l4, l5, l6, l7, l8, l9, l10, l11, l12, l13, l14, l15, l20, l30, l40, l48, l60, l64, l99, l100, l700, l999, not_true_eq_false, not_false_eq_true, x_t0, x_t1, lts1, x_10, x_1sub, eq_self, Nat.reduceSub, Nat.reduceAdd, Nat.reduceMul, h20, ↓q1_of (m_byte hb (show j < n by omega)), ↓q1_of cl, h22]
        exact k1
      · have hj7 := hJ (by omega)
        have pk := pkn_35 (b := b) (i := p) (m := j - p) (by omega) (fun i hi => hl (p + i) (by omega) (by omega))
        have hnew : (lN (pkn b (j - p) p 0) <<< (Int32.toInt64 5 &&& 63)) ||| Int32.toInt64 (nI (b j) - 96) = lN (pkn b (j + 1 - p) p 0) := by
          rw [show (96 : Int32) = nI 96 from rfl, x_sub (by omega), nI_l (by omega), pk_sl pk (by omega), show j + 1 - p = j - p + 1 by omega, pkn_snoc, show p + (j - p) = j by omega]
        obtain ⟨M', J', k1, k2, k3, k4, k5, k6, k7, k8⟩ := ih (j + 1) (sd_up M 61 20 (nI (j + 1))) (sd_upJ J 61 26 (lN (pkn b (j + 1 - p) p 0))) f (by omega) (by omega) (hb.of (ksm.refl.up (by omega))) up_s (by rw [up_m (by omega)]; exact h22) (by omega) hll (fun z => upJ_s)
        refine ⟨M', J', ?_, k2, k3, k4, k5, k6, (ksm.refl.up (by omega)).trans k7, (jsm.refl.up).trans k8⟩
        unfold F_Mo_goes_81
        rw [h20, q1_of (m_byte hb (show j < n by omega)), q1_of cl, if_neg (by decide), h22, x_sub hp, if_neg (show ¬ (7 : Int32) ≤ nI (j - p) from nI_ge (b := 7) (by omega) (by omega)), q1_of (m_byte hb (show j < n by omega)), y_lt, hj7, hnew, y_lt, show nI j + 1 = nI (j + 1) from nI_add j 1]
        exact k1
theorem m_r95 {p : Nat} : ∀ m j M J f, j + m = n → m < f → mtb b n M → M 61 20 = nI j → M 61 22 = nI p → p ≤ j → (∀ i, p ≤ i → i < j → dgt (b i) = true) → (j - p ≤ 4 → M 61 24 = nI (nvl b (j - p) p 0)) →
    ∃ M', F_Mo_goes_95 f M J = some (M', J) ∧ M' 61 20 = nI (rn dgt b m j) ∧ M' 61 21 = 2 ∧ M' 61 22 = nI p ∧ M' 61 23 = nI (rn dgt b m j - p) ∧ (rn dgt b m j - p ≤ 4 → M' 61 24 = nI (nvl b (rn dgt b m j - p) p 0)) ∧ ksm M M' := by
  intro m
  induction m with
  | zero =>
    intro j M J f hj hf hb h20 h22 hp hl hJ
    obtain ⟨f, rfl⟩ : ∃ g, f = g + 1 := ⟨f - 1, by omega⟩
    have h1 := hb.1
    refine ⟨sd_up (sd_up M 61 21 2) 61 23 (nI (j - p)), ?_, ?_, ?_, ?_, up_s, fun z => ?_, (ksm.refl.up (by omega)).up (by omega)⟩
    · have hu : F_Mo_goes_95 (f + 1) M J = F_Mo_goes_95B (F_Mo_goes_95 f) M J := rfl
      rw [hu]
      unfold F_Mo_goes_95B
      rw [h20, q1_of (m_byte0 hb (by omega) (by omega)), q1_of (show F_Mo_isDigit 0 = some 0 by decide +kernel), if_pos rfl, y_lt]
      exact m_r170 (by rw [up_m (by omega)]; exact h20) (by rw [up_m (by omega)]; exact h22) hp
    · rw [up_m (by omega), up_m (by omega)]; exact h20
    · rw [up_m (by omega)]; exact up_s
    · rw [up_m (by omega), up_m (by omega)]; exact h22
    · rw [up_m (by omega), up_m (by omega)]; exact hJ z
  | succ m ih =>
    intro j M J f hj hf hb h20 h22 hp hl hJ
    obtain ⟨f, rfl⟩ : ∃ g, f = g + 1 := ⟨f - 1, by omega⟩
    have h1 := hb.1
    have hbj := (hb.2.2 j (by omega)).1
    have cl := m_digit hbj
    have hu : F_Mo_goes_95 (f + 1) M J = F_Mo_goes_95B (F_Mo_goes_95 f) M J := rfl
    rw [hu]
    unfold F_Mo_goes_95B rn
    cases e : dgt (b j)
    · rw [e] at cl
      have cl : F_Mo_isDigit (nI (b j)) = some 0 := cl
      rw [if_neg (show ¬ (false = true) by decide)]
      refine ⟨sd_up (sd_up M 61 21 2) 61 23 (nI (j - p)), ?_, ?_, ?_, ?_, up_s, fun z => ?_, (ksm.refl.up (by omega)).up (by omega)⟩
      · rw [h20, q1_of (m_byte hb (by omega)), q1_of cl, if_pos rfl, y_lt]
        exact m_r170 (by rw [up_m (by omega)]; exact h20) (by rw [up_m (by omega)]; exact h22) hp
      · rw [up_m (by omega), up_m (by omega)]; exact h20
      · rw [up_m (by omega)]; exact up_s
      · rw [up_m (by omega), up_m (by omega)]; exact h22
      · rw [up_m (by omega), up_m (by omega)]; exact hJ z
    · rw [e] at cl
      have cl : F_Mo_isDigit (nI (b j)) = some 1 := cl
      rw [if_pos rfl]
      have hll : ∀ i, p ≤ i → i < j + 1 → dgt (b i) = true := fun i i1 i2 => by
        by_cases g : i = j
        · rw [g]; exact e
        · exact hl i i1 (by omega)
      have hle := dgt_iff.mp e
      by_cases g : 4 ≤ j - p
      · obtain ⟨M', k1, k2, k3, k4, k5, k6, k7⟩ := ih (j + 1) (sd_up M 61 20 (nI (j + 1))) J f (by omega) (by omega) (hb.of (ksm.refl.up (by omega))) up_s (by rw [up_m (by omega)]; exact h22) (by omega) hll (fun z => absurd z (by omega))
        refine ⟨M', ?_, k2, k3, k4, k5, k6, (ksm.refl.up (by omega)).trans k7⟩
        unfold F_Mo_goes_121
        simp (disch := omega) only [↓g_in, ↓g_c0, ↓g_c1, ↓reduceIte, ↓y_lt, ↓y_q1, ↓y_q2, ↓sn_q3, ↓sn_t1l, ↓sn_t1r, ↓sn_t2l, ↓sn_t2r, y_q1, y_q2, sn_q3, sn_t1l, sn_t1r, sn_t2l, sn_t2r, nI_clamp, x_leT, x_leF, x_ltT, x_ltF, x_eqT, x_eqF, x_le0T, x_le0F, x_0leT, x_lt0F, x_0ltT, x_0ltF, x_eq0T, x_eq0F, x_le1T, x_le1F, x_1leT, x_1leF, x_1ltT, x_1ltF, x_lt1T, x_lt1F, x_eq1T, x_eq1F, x_m1F, nI_add, nI_1, sn_mul, x_sub, x_sub1, sn_m1, l2, l3, l4, l5, l6, l7, l8, l9, l10, l11, l12, l13, l14, l15, l20, l30, l40, l48, l60, l64, l99, l100, l700, l999, not_true_eq_false, not_false_eq_true, x_t0, x_t1, lts1, x_10, x_1sub, eq_self, Nat.reduceSub, Nat.reduceAdd, Nat.reduceMul, h20, ↓q1_of (m_byte hb (show j < n by omega)), ↓q1_of cl, h22]
        exact k1
      · have hj7 := hJ (by omega)
        have nv := nvl_4 (b := b) (i := p) (m := j - p) (by omega) (fun i hi => hl (p + i) (by omega) (by omega))
        have hnew : 10 * nI (nvl b (j - p) p 0) + nI (b j) - 48 = nI (nvl b (j + 1 - p) p 0) := by
          rw [show j + 1 - p = j - p + 1 by omega, nvl_snoc, show p + (j - p) = j by omega, show (10 : Int32) = nI 10 from rfl, sn_mul, nI_add, show (48 : Int32) = nI 48 from rfl, x_sub (by omega), Nat.mul_comm]
        obtain ⟨M', k1, k2, k3, k4, k5, k6, k7⟩ := ih (j + 1) (sd_up (sd_up M 61 24 (nI (nvl b (j + 1 - p) p 0))) 61 20 (nI (j + 1))) J f (by omega) (by omega) (hb.of ((ksm.refl.up (by omega)).up (by omega))) up_s (by rw [up_m (by omega), up_m (by omega)]; exact h22) (by omega) hll (fun z => by rw [up_m (by omega)]; exact up_s)
        refine ⟨M', ?_, k2, k3, k4, k5, k6, ((ksm.refl.up (by omega)).up (by omega)).trans k7⟩
        unfold F_Mo_goes_121
        rw [h20, q1_of (m_byte hb (show j < n by omega)), q1_of cl, if_neg (by decide), h22, x_sub hp, if_neg (show ¬ (4 : Int32) ≤ nI (j - p) from nI_ge (b := 4) (by omega) (by omega)), q1_of (m_byte hb (show j < n by omega)), hj7, hnew, y_lt, y_lt, up_m (show (20:Nat) ≠ 24 by omega), h20, show nI j + 1 = nI (j + 1) from nI_add j 1]
        exact k1
end GO
