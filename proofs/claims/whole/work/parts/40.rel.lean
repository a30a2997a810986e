/-! ===== the class's cells C and the model's cells M hold the same ===== -/
def chR (A : sA) (C : sm_MI) (p : Nat) (nw ah he : Nat → Int32) (a h : Int32) : Prop :=
  stR (A 0 0) nw (C (p + 1)) ∧ (∃ u, u ≤ 40 ∧ C p 2 = nI u ∧ a = nI u ∧ ∀ j, j < u → stR (A 0 0) (fun s => ah (16 * j + s)) (fun s => C (p + 2) (5 * j + s))) ∧
  ∃ u, u ≤ 8 ∧ C p 6 = nI u ∧ h = nI u ∧ ∀ k, k < u → ∃ r i v, r < 20 ∧ i < A 7 r ∧ v ≤ 60 ∧ he (3 * k) = nI r ∧ he (3 * k + 1) = nI i ∧ he (3 * k + 2) = nI v ∧ C (p + 3) k = nI r ∧ C (p + 4) k = nI (A 8 (12 * r + i)) ∧ C (p + 5) k = nI v
def Rel (A : sA) (R : Nat → List Nat) (t : Nat) (C M : sm_MI) : Prop :=
  (wA A ∧ rW R ∧ cA A t C ∧ rC R (t + 14) C ∧ mA A M ∧ rM R M) ∧ chR A C 8 (M 86) (M 88) (M 91) (M 61 50) (M 61 53) ∧
  (C 0 9 = M 61 57 ∧ (C 0 9 = 0 ∨ (C 0 9 = 1 ∧ chR A C 14 (M 93) (M 94) (M 95) (M 61 58) (M 61 59)))) ∧
  C 0 8 = M 61 17 ∧ (∀ k, k < 3 → C 1 k = M 73 k) ∧ (∃ f, f ≤ 700 ∧ C 4 1 = nI f ∧ M 61 15 = nI f ∧ ∀ j, j < f → ∃ b, b < 256 ∧ C 5 j = nI b ∧ M 72 j = nI b) ∧ (t = 21 ∨ t = 41)
def smM (M M' : sm_MI) : Prop := (∀ j, 1 ≤ j → j ≠ 56 → M' 61 j = M 61 j) ∧ (∀ k, 62 ≤ k → k ≠ 87 → k ≠ 89 → k ≠ 90 → k ≠ 92 → M' k = M k) ∧ ∀ k, k < 61 → M' k = M k
def csm (t : Nat) (C C' : sm_MI) : Prop := ∀ k, k ≠ 2 → k ≠ 20 → k ≠ t + 18 → k ≠ t + 19 → C' k = C k
section RL
variable {A : sA} {R : Nat → List Nat} {t : Nat} {C C' M M' : sm_MI}
theorem Rel.wa (h : Rel A R t C M) : wA A := h.1.1
theorem Rel.rw (h : Rel A R t C M) : rW R := h.1.2.1
theorem Rel.ca (h : Rel A R t C M) : cA A t C := h.1.2.2.1
theorem Rel.rc (h : Rel A R t C M) : rC R (t + 14) C := h.1.2.2.2.1
theorem Rel.ma (h : Rel A R t C M) : mA A M := h.1.2.2.2.2.1
theorem Rel.rm (h : Rel A R t C M) : rM R M := h.1.2.2.2.2.2
theorem Rel.st (h : Rel A R t C M) : stR (A 0 0) (M 86) (C 9) := h.2.1.1
theorem Rel.tt (h : Rel A R t C M) : t = 21 ∨ t = 41 := h.2.2.2.2.2.2
theorem smM.refl : smM M M := ⟨fun _ _ _ => rfl, fun _ _ _ _ _ _ => rfl, fun _ _ => rfl⟩
theorem smM.up {k j : Nat} {x : Int32} (hk : k = 87 ∨ k = 89 ∨ k = 90 ∨ k = 92 ∨ (k = 61 ∧ (j = 0 ∨ j = 56))) (h : smM M M') : smM M (sd_up M' k j x) := by
  refine ⟨fun i h1 h2 => ?_, fun i h1 h2 h3 h4 h5 => ?_, fun i h1 => ?_⟩
  · rw [← h.1 i h1 h2]
    by_cases e : k = 61
    · subst e; exact up_m (by omega)
    · rw [up_e e]
  · rw [← h.2.1 i h1 h2 h3 h4 h5, up_n (by omega)]
  · rw [← h.2.2 i h1, up_n (by omega)]
theorem smM.fr {M2 : sm_MI} (h : smM M M') (hk : ∀ k, k ≠ 89 → k ≠ 90 → M2 k = M' k) : smM M M2 := by
  refine ⟨fun i h1 h2 => ?_, fun i h1 h2 h3 h4 h5 => ?_, fun i h1 => ?_⟩
  · rw [← h.1 i h1 h2, hk 61 (by omega) (by omega)]
  · rw [← h.2.1 i h1 h2 h3 h4 h5, hk i (by omega) (by omega)]
  · rw [← h.2.2 i h1, hk i (by omega) (by omega)]
theorem smM.trans {M2 : sm_MI} (h : smM M M') (g : smM M' M2) : smM M M2 :=
  ⟨fun i h1 h2 => by rw [g.1 i h1 h2, h.1 i h1 h2], fun i h1 h2 h3 h4 h5 => by rw [g.2.1 i h1 h2 h3 h4 h5, h.2.1 i h1 h2 h3 h4 h5], fun i h1 => by rw [g.2.2 i h1, h.2.2 i h1]⟩
theorem csm.refl : csm t C C := fun _ _ _ _ _ => rfl
theorem csm.fr {C2 : sm_MI} (h : csm t C C') (hk : ∀ k, k ≠ t + 18 → k ≠ t + 19 → C2 k = C' k) : csm t C C2 := fun k h1 h2 h3 h4 => by rw [hk k h3 h4, h k h1 h2 h3 h4]
theorem chR_C {p : Nat} {nw ah he : Nat → Int32} {a h : Int32} (hc : chR A C p nw ah he a h) (e : ∀ k, k < 6 → C' (p + k) = C (p + k)) : chR A C' p nw ah he a h := by
  have e0 := e 0 (by omega)
  rw [Nat.add_zero] at e0
  unfold chR at hc ⊢
  rw [e0, e 1 (by omega), e 2 (by omega), e 3 (by omega), e 4 (by omega), e 5 (by omega)]
  exact hc
theorem Rel.onC (h : Rel A R t C M) (e : csm t C C') : Rel A R t C' M := by
  have ht := h.tt
  have e' : ∀ k, k ≠ 2 → k ≠ 20 → k ≠ t + 18 → k ≠ t + 19 → C' k = C k := e
  obtain ⟨⟨h1, h2, h3, h4, h5, h6⟩, h7, h8, h9, h10, h11, h12⟩ := h
  refine ⟨⟨h1, h2, cA_same h3 (fun k hk => e' _ (by omega) (by omega) (by omega) (by omega)), ?_, h5, h6⟩, chR_C h7 (fun k hk => e' _ (by omega) (by omega) (by omega) (by omega)), ?_, ?_, ?_, ?_, h12⟩
  · unfold rC
    rw [e' (t + 14 + 1) (by omega) (by omega) (by omega) (by omega), e' (t + 14 + 2) (by omega) (by omega) (by omega) (by omega), e' (t + 14 + 3) (by omega) (by omega) (by omega) (by omega)]
    exact h4
  · rw [e' 0 (by omega) (by omega) (by omega) (by omega)]
    exact ⟨h8.1, h8.2.imp id (fun z => ⟨z.1, chR_C z.2 (fun k hk => e' _ (by omega) (by omega) (by omega) (by omega))⟩)⟩
  · rw [e' 0 (by omega) (by omega) (by omega) (by omega)]; exact h9
  · rw [e' 1 (by omega) (by omega) (by omega) (by omega)]; exact h10
  · rw [e' 4 (by omega) (by omega) (by omega) (by omega), e' 5 (by omega) (by omega) (by omega) (by omega)]; exact h11
theorem Rel.onM (h : Rel A R t C M) (e : smM M M') : Rel A R t C M' := by
  obtain ⟨⟨h1, h2, h3, h4, h5, h6⟩, h7, h8, h9, h10, h11, h12⟩ := h
  obtain ⟨e1, e2, -⟩ := e
  refine ⟨⟨h1, h2, h3, h4, mA_of h5 (e1 1 (by omega) (by omega)) (e1 2 (by omega) (by omega)) (e1 3 (by omega) (by omega)) (fun k a b => e2 k a (by omega) (by omega) (by omega) (by omega)), ?_⟩, ?_, ?_, ?_, ?_, ?_, h12⟩
  · unfold rM
    rw [e2 70 (by omega) (by omega) (by omega) (by omega) (by omega), e2 71 (by omega) (by omega) (by omega) (by omega) (by omega)]
    exact h6
  · rw [e2 86 (by omega) (by omega) (by omega) (by omega) (by omega), e2 88 (by omega) (by omega) (by omega) (by omega) (by omega), e2 91 (by omega) (by omega) (by omega) (by omega) (by omega), e1 50 (by omega) (by omega), e1 53 (by omega) (by omega)]
    exact h7
  · rw [e2 93 (by omega) (by omega) (by omega) (by omega) (by omega), e2 94 (by omega) (by omega) (by omega) (by omega) (by omega), e2 95 (by omega) (by omega) (by omega) (by omega) (by omega), e1 57 (by omega) (by omega), e1 58 (by omega) (by omega), e1 59 (by omega) (by omega)]
    exact h8
  · rw [e1 17 (by omega) (by omega)]; exact h9
  · rw [e2 73 (by omega) (by omega) (by omega) (by omega) (by omega)]; exact h10
  · rw [e2 72 (by omega) (by omega) (by omega) (by omega) (by omega), e1 15 (by omega) (by omega)]; exact h11
theorem Rel.start (h : Rel A R t C M) : ∃ M1, sd_up M 61 0 0 = M1 ∧ M1 61 0 = 0 ∧ Rel A R t C M1 ∧ smM M M1 := ⟨_, rfl, up_s, h.onM (smM.up (by omega) smM.refl), smM.up (by omega) smM.refl⟩
end RL
/-- what a call of the model comes to: .inl an answer, .inr a number of what is thrown -/
def mq (o : Option (Int32 × sm_MI)) (M : sm_MI) (r : Int32 ⊕ Int32) : Prop := ∃ v M', o = some (v, M') ∧ smM M M' ∧ (match r with
  | .inl w => v = w ∧ M' 61 0 = 0
  | .inr e => M' 61 0 = e)
theorem mq_v {o : Option (Int32 × sm_MI)} {M M' : sm_MI} {w : Int32} (h : o = some (w, M')) (h0 : M' 61 0 = 0) (hs : smM M M') : mq o M (.inl w) := ⟨w, M', h, hs, rfl, h0⟩
theorem mq_e {o : Option (Int32 × sm_MI)} {M M' : sm_MI} {v e : Int32} (h : o = some (v, M')) (h0 : M' 61 0 = e) (hs : smM M M') : mq o M (.inr e) := ⟨v, M', h, hs, h0⟩
theorem mq_t {o : Option (Int32 × sm_MI)} {M M' : sm_MI} {v e : Int32} (hs : smM M M') (h : o = some (v, sd_up M' 61 0 e)) : mq o M (.inr e) := mq_e h up_s (smM.up (by omega) hs)
/-! what calls may name -/
theorem ix_or (x : Int32) {n : Nat} (hn : n < 2 ^ 31) : (x < 0 ∨ nI n ≤ x) ∨ ∃ j, j < n ∧ x = nI j := by
  rcases pk_ix x hn with h | h | h
  · exact Or.inl (Or.inl h)
  · exact Or.inl (Or.inr h)
  · exact Or.inr h
theorem ix_lt {x : Int32} {n : Nat} (h : nI n ≤ x) (hn : n < 2 ^ 31) : ¬ x < 0 := fun z => by
  have h1 := Int32.le_iff_toInt_le.mp h
  have h2 := Int32.lt_iff_toInt_lt.mp z
  rw [nI_toInt hn] at h1
  have h3 : (0 : Int32).toInt = 0 := rfl
  omega
theorem c_chS1 {A : sA} {t s : Nat} {C : sm_MI} (hw : wA A) (hc : cA A t C) (hs : s < A 0 0) : F_VM_checkSinger t (nI s) C = some (.inl ()) := by
  have := hw.1
  unfold F_VM_checkSinger
  simp (disch := omega) only [↓g_in, ↓g_c0, ↓g_c1, ↓reduceIte, y_lt, y_q1, y_q2, sn_q3, sn_t1l, sn_t1r, sn_t2l, sn_t2r, nI_clamp, x_leT, x_leF, x_ltT, x_ltF, x_eqT, x_eqF, x_le0T, x_le0F, x_0leT, x_lt0F, x_0ltT, x_0ltF, x_eq0T, x_eq0F, x_le1T, x_le1F, x_1leT, x_1leF, x_1ltT, x_1ltF, x_lt1T, x_lt1F, x_eq1T, x_eq1F, x_m1F, nI_add, nI_1, sn_mul, x_sub, x_sub1, sn_m1, l2, l3, l4, l5, l6, l7, l8, l9, l10, l11, l12, l13, l14, l15, l20, l30, l40, l48, l60, l64, l99, l100, l700, l999, not_true_eq_false, not_false_eq_true, x_t0, x_t1, lts1, x_10, x_1sub, eq_self, Nat.reduceSub, Nat.reduceAdd, Nat.reduceMul, hc.1]
theorem c_chS0 {A : sA} {t : Nat} {x : Int32} {C : sm_MI} (hw : wA A) (hc : cA A t C) (hs : x < 0 ∨ nI (A 0 0) ≤ x) : F_VM_checkSinger t x C = some (.inr 1) := by
  have := hw.1
  unfold F_VM_checkSinger
  rcases hs with h | h
  · rw [if_pos h]
  · rw [if_neg (ix_lt h (by omega)), hc.1, if_pos h]
theorem c_chP1 {A : sA} {t s : Nat} {C : sm_MI} (hw : wA A) (hc : cA A t C) (hs : s < A 0 1) : F_VM_checkPiece t (nI s) C = some (.inl ()) := by
  have := hw.2.1
  unfold F_VM_checkPiece
  simp (disch := omega) only [↓g_in, ↓g_c0, ↓g_c1, ↓reduceIte, y_lt, y_q1, y_q2, sn_q3, sn_t1l, sn_t1r, sn_t2l, sn_t2r, nI_clamp, x_leT, x_leF, x_ltT, x_ltF, x_eqT, x_eqF, x_le0T, x_le0F, x_0leT, x_lt0F, x_0ltT, x_0ltF, x_eq0T, x_eq0F, x_le1T, x_le1F, x_1leT, x_1leF, x_1ltT, x_1ltF, x_lt1T, x_lt1F, x_eq1T, x_eq1F, x_m1F, nI_add, nI_1, sn_mul, x_sub, x_sub1, sn_m1, l2, l3, l4, l5, l6, l7, l8, l9, l10, l11, l12, l13, l14, l15, l20, l30, l40, l48, l60, l64, l99, l100, l700, l999, not_true_eq_false, not_false_eq_true, x_t0, x_t1, lts1, x_10, x_1sub, eq_self, Nat.reduceSub, Nat.reduceAdd, Nat.reduceMul, hc.2.1]
theorem c_chP0 {A : sA} {t : Nat} {x : Int32} {C : sm_MI} (hw : wA A) (hc : cA A t C) (hs : x < 0 ∨ nI (A 0 1) ≤ x) : F_VM_checkPiece t x C = some (.inr 1) := by
  have := hw.2.1
  unfold F_VM_checkPiece
  rcases hs with h | h
  · rw [if_pos h]
  · rw [if_neg (ix_lt h (by omega)), hc.2.1, if_pos h]
theorem c_chT1 {s : Nat} (hs : s < 4) : F_VM_checkPart (nI s) = some (.inl ()) := by
  unfold F_VM_checkPart
  simp (disch := omega) only [↓g_in, ↓g_c0, ↓g_c1, ↓reduceIte, y_lt, y_q1, y_q2, sn_q3, sn_t1l, sn_t1r, sn_t2l, sn_t2r, nI_clamp, x_leT, x_leF, x_ltT, x_ltF, x_eqT, x_eqF, x_le0T, x_le0F, x_0leT, x_lt0F, x_0ltT, x_0ltF, x_eq0T, x_eq0F, x_le1T, x_le1F, x_1leT, x_1leF, x_1ltT, x_1ltF, x_lt1T, x_lt1F, x_eq1T, x_eq1F, x_m1F, nI_add, nI_1, sn_mul, x_sub, x_sub1, sn_m1, l2, l3, l4, l5, l6, l7, l8, l9, l10, l11, l12, l13, l14, l15, l20, l30, l40, l48, l60, l64, l99, l100, l700, l999, not_true_eq_false, not_false_eq_true, x_t0, x_t1, lts1, x_10, x_1sub, eq_self, Nat.reduceSub, Nat.reduceAdd, Nat.reduceMul]
theorem c_chT0 {x : Int32} (hs : x < 0 ∨ nI 4 ≤ x) : F_VM_checkPart x = some (.inr 1) := by
  unfold F_VM_checkPart
  rcases hs with h | h
  · rw [if_pos h]
  · rw [if_neg (ix_lt h (by omega)), if_neg (show ¬ x < (4 : Int32) from Int32.not_lt.mpr h)]
theorem c_chW1 {s : Nat} (hs : s < 2) : F_VM_checkWarring (nI s) = some (.inl ()) := by
  unfold F_VM_checkWarring
  simp (disch := omega) only [↓g_in, ↓g_c0, ↓g_c1, ↓reduceIte, y_lt, y_q1, y_q2, sn_q3, sn_t1l, sn_t1r, sn_t2l, sn_t2r, nI_clamp, x_leT, x_leF, x_ltT, x_ltF, x_eqT, x_eqF, x_le0T, x_le0F, x_0leT, x_lt0F, x_0ltT, x_0ltF, x_eq0T, x_eq0F, x_le1T, x_le1F, x_1leT, x_1leF, x_1ltT, x_1ltF, x_lt1T, x_lt1F, x_eq1T, x_eq1F, x_m1F, nI_add, nI_1, sn_mul, x_sub, x_sub1, sn_m1, l2, l3, l4, l5, l6, l7, l8, l9, l10, l11, l12, l13, l14, l15, l20, l30, l40, l48, l60, l64, l99, l100, l700, l999, not_true_eq_false, not_false_eq_true, x_t0, x_t1, lts1, x_10, x_1sub, eq_self, Nat.reduceSub, Nat.reduceAdd, Nat.reduceMul]
theorem c_chW0 {x : Int32} (hs : x < 0 ∨ nI 2 ≤ x) : F_VM_checkWarring x = some (.inr 1) := by
  unfold F_VM_checkWarring
  rcases hs with h | h
  · rw [if_pos h]
  · rw [if_neg (ix_lt h (by omega)), if_neg (show ¬ x < (2 : Int32) from Int32.not_lt.mpr h)]
theorem ix_99 {x : Int32} {n : Nat} (h : nI (n + 1) ≤ x) (hn : n < 2 ^ 30) : ¬ x ≤ nI n := fun z => by
  have h1 := Int32.le_iff_toInt_le.mp h
  have h2 := Int32.le_iff_toInt_le.mp z
  rw [nI_toInt (by omega)] at h1 h2
  omega
theorem c_chD1 {s : Nat} (hs : s < 100) : F_VM_checkDays (nI s) = some (.inl ()) := by
  unfold F_VM_checkDays
  simp (disch := omega) only [↓g_in, ↓g_c0, ↓g_c1, ↓reduceIte, y_lt, y_q1, y_q2, sn_q3, sn_t1l, sn_t1r, sn_t2l, sn_t2r, nI_clamp, x_leT, x_leF, x_ltT, x_ltF, x_eqT, x_eqF, x_le0T, x_le0F, x_0leT, x_lt0F, x_0ltT, x_0ltF, x_eq0T, x_eq0F, x_le1T, x_le1F, x_1leT, x_1leF, x_1ltT, x_1ltF, x_lt1T, x_lt1F, x_eq1T, x_eq1F, x_m1F, nI_add, nI_1, sn_mul, x_sub, x_sub1, sn_m1, l2, l3, l4, l5, l6, l7, l8, l9, l10, l11, l12, l13, l14, l15, l20, l30, l40, l48, l60, l64, l99, l100, l700, l999, not_true_eq_false, not_false_eq_true, x_t0, x_t1, lts1, x_10, x_1sub, eq_self, Nat.reduceSub, Nat.reduceAdd, Nat.reduceMul]
theorem c_chD0 {x : Int32} (hs : x < 0 ∨ nI 100 ≤ x) : F_VM_checkDays x = some (.inr 0) := by
  unfold F_VM_checkDays
  rcases hs with h | h
  · rw [if_pos h]
  · rw [if_neg (ix_lt h (by omega)), if_neg (show ¬ x ≤ (99 : Int32) from ix_99 (n := 99) h (by omega))]
theorem c_chR1 {A : sA} {t p k : Nat} {C : sm_MI} (hw : wA A) (hc : cA A t C) (hp : p < A 0 1) (hk : k < 4) : F_VM_checkRow t (nI p) (nI k) C = some (.inl ()) := by
  unfold F_VM_checkRow
  rw [c_chP1 hw hc hp, sn_t1l, c_chT1 hk, sn_t1l]
theorem c_chR0 {A : sA} {t : Nat} {x y : Int32} {C : sm_MI} (hw : wA A) (hc : cA A t C) (hs : x < 0 ∨ nI (A 0 1) ≤ x) : F_VM_checkRow t x y C = some (.inr 1) := by
  unfold F_VM_checkRow
  rw [c_chP0 hw hc hs, sn_t1r]
theorem c_chR2 {A : sA} {t p : Nat} {y : Int32} {C : sm_MI} (hw : wA A) (hc : cA A t C) (hp : p < A 0 1) (hs : y < 0 ∨ nI 4 ≤ y) : F_VM_checkRow t (nI p) y C = some (.inr 1) := by
  unfold F_VM_checkRow
  rw [c_chP1 hw hc hp, sn_t1l, c_chT0 hs, sn_t1r]
theorem m_rt1 {x e : Int32} {M : sm_MI} (h0 : M 61 0 = 0) (hx : ¬ x = 0) : F_Mo_right x e M = some (1, M) := by
  unfold F_Mo_right F_Mo_right_8
  rw [h0, if_neg (sn_nn rfl), if_pos hx, if_neg (sn_nn rfl)]
theorem m_rt0 {e : Int32} {M : sm_MI} (h0 : M 61 0 = 0) (he : ¬ e = 0) : F_Mo_right 0 e M = some (0, sd_up M 61 0 e) := by
  unfold F_Mo_right F_Mo_right_8
  rw [h0, if_neg (sn_nn rfl), if_neg (sn_nn rfl), sn_lt, up_s, if_pos he]
theorem m_isS1 {A : sA} {s : Nat} {M : sm_MI} (hw : wA A) (hm : mA A M) (h0 : M 61 0 = 0) (hs : s < A 0 0) : F_Mo_isSinger (nI s) M = some (1, M) := by
  have := hw.1
  unfold F_Mo_isSinger F_Mo_isSinger_10
  simp (disch := omega) only [↓g_in, ↓g_c0, ↓g_c1, ↓reduceIte, y_lt, y_q1, y_q2, sn_q3, sn_t1l, sn_t1r, sn_t2l, sn_t2r, nI_clamp, x_leT, x_leF, x_ltT, x_ltF, x_eqT, x_eqF, x_le0T, x_le0F, x_0leT, x_lt0F, x_0ltT, x_0ltF, x_eq0T, x_eq0F, x_le1T, x_le1F, x_1leT, x_1leF, x_1ltT, x_1ltF, x_lt1T, x_lt1F, x_eq1T, x_eq1F, x_m1F, nI_add, nI_1, sn_mul, x_sub, x_sub1, sn_m1, l2, l3, l4, l5, l6, l7, l8, l9, l10, l11, l12, l13, l14, l15, l20, l30, l40, l48, l60, l64, l99, l100, l700, l999, not_true_eq_false, not_false_eq_true, x_t0, x_t1, lts1, x_10, x_1sub, eq_self, Nat.reduceSub, Nat.reduceAdd, Nat.reduceMul, hm.1, m_rt1 h0 n10, nar1]
theorem m_isS0 {A : sA} {x : Int32} {M : sm_MI} (hw : wA A) (hm : mA A M) (h0 : M 61 0 = 0) (hs : x < 0 ∨ nI (A 0 0) ≤ x) : F_Mo_isSinger x M = some (0, sd_up M 61 0 1) := by
  have := hw.1
  unfold F_Mo_isSinger F_Mo_isSinger_10
  rw [m_rt0 h0 n10, sn_q2, nar0, hm.1]
  rcases hs with h | h
  · rw [if_pos h]
  · rw [if_neg (ix_lt h (by omega)), if_pos h]
theorem m_isP1 {A : sA} {s : Nat} {M : sm_MI} (hw : wA A) (hm : mA A M) (h0 : M 61 0 = 0) (hs : s < A 0 1) : F_Mo_isPiece (nI s) M = some (1, M) := by
  have := hw.2.1
  unfold F_Mo_isPiece F_Mo_isPiece_10
  simp (disch := omega) only [↓g_in, ↓g_c0, ↓g_c1, ↓reduceIte, y_lt, y_q1, y_q2, sn_q3, sn_t1l, sn_t1r, sn_t2l, sn_t2r, nI_clamp, x_leT, x_leF, x_ltT, x_ltF, x_eqT, x_eqF, x_le0T, x_le0F, x_0leT, x_lt0F, x_0ltT, x_0ltF, x_eq0T, x_eq0F, x_le1T, x_le1F, x_1leT, x_1leF, x_1ltT, x_1ltF, x_lt1T, x_lt1F, x_eq1T, x_eq1F, x_m1F, nI_add, nI_1, sn_mul, x_sub, x_sub1, sn_m1, l2, l3, l4, l5, l6, l7, l8, l9, l10, l11, l12, l13, l14, l15, l20, l30, l40, l48, l60, l64, l99, l100, l700, l999, not_true_eq_false, not_false_eq_true, x_t0, x_t1, lts1, x_10, x_1sub, eq_self, Nat.reduceSub, Nat.reduceAdd, Nat.reduceMul, hm.2.1, m_rt1 h0 n10, nar1]
theorem m_isP0 {A : sA} {x : Int32} {M : sm_MI} (hw : wA A) (hm : mA A M) (h0 : M 61 0 = 0) (hs : x < 0 ∨ nI (A 0 1) ≤ x) : F_Mo_isPiece x M = some (0, sd_up M 61 0 1) := by
  have := hw.2.1
  unfold F_Mo_isPiece F_Mo_isPiece_10
  rw [m_rt0 h0 n10, sn_q2, nar0, hm.2.1]
  rcases hs with h | h
  · rw [if_pos h]
  · rw [if_neg (ix_lt h (by omega)), if_pos h]
theorem m_wi1 {s n : Nat} {y : Int32} (hs : s < n + 1) (hn : n < 2 ^ 30) (hy : y = nI n) : F_Mo_within (nI s) 0 y = some 1 := by
  rw [mo_within, hy, if_pos ⟨nI_pos' (by omega), nI_le (by omega) (by omega)⟩]
theorem m_wi0 {x y : Int32} {n : Nat} (hs : x < 0 ∨ nI (n + 1) ≤ x) (hn : n < 2 ^ 30) (hy : y = nI n) : F_Mo_within x 0 y = some 0 := by
  rw [mo_within, hy, if_neg]
  rintro ⟨h1, h2⟩
  rcases hs with h | h
  · exact Int32.not_le.mpr h h1
  · exact ix_99 h hn h2
theorem m_isW1 {s n : Nat} {y : Int32} {M : sm_MI} (h0 : M 61 0 = 0) (hs : s < n + 1) (hn : n < 2 ^ 30) (hy : y = nI n) : F_Mo_isWhat (nI s) y M = some (1, M) := by
  unfold F_Mo_isWhat
  rw [m_wi1 hs hn hy, sn_q1, m_rt1 h0 n10, sn_q2, nar1]
theorem m_isW0 {x y : Int32} {n : Nat} {M : sm_MI} (h0 : M 61 0 = 0) (hs : x < 0 ∨ nI (n + 1) ≤ x) (hn : n < 2 ^ 30) (hy : y = nI n) : F_Mo_isWhat x y M = some (0, sd_up M 61 0 1) := by
  unfold F_Mo_isWhat
  rw [m_wi0 hs hn hy, sn_q1, m_rt0 h0 n10, sn_q2, nar0]
