/-! ===== a day goes by ===== -/
def eve (A : sA) (c : Nat → Int32) : Bool := decide (sd_mod (c 3) (nI (A 0 2)) = 0) && decide (¬ sg A (c 0) = 0)
def bo (w : Int32) : Int32 := if ¬ w = -1 then (1 : Int32) <<< (w &&& 31) else 0
def wt (A : sA) (R : Nat → List Nat) (σ : Nat) (c : Nat → Int32) : Int32 := if hf A R σ c then -1 else tg A R σ c
def fl (A : sA) (R : Nat → List Nat) (c : Nat → Int32) : Int32 := if eve A c then 0 else bo (wt A R 0 c) ||| bo (wt A R 1 c)
def dy (A : sA) (R : Nat → List Nat) (c : Nat → Int32) : Nat → Int32
  | 0 => c 0 &&& (fl A R c ^^^ -1)
  | 1 => c 1
  | 2 => c 2 ||| fl A R c
  | 3 => c 3 + 1
  | 4 => if eve A c then c 4 + 1 else c 4
  | k => c k
theorem bt_not {x : Int32} {i : Nat} (hi : i < 32) : bt (x ^^^ -1) i = !bt x i := by
  rw [b_xor, b_m1 i hi]
  cases bt x i <;> rfl
theorem an_n0 (x : Int32) : x &&& (0 ^^^ -1) = x := by
  apply b_ext
  intro i hi
  rw [b_and, bt_not hi, b_0]
  simp
theorem bo_n {j : Nat} (h : j < 2 ^ 31) : bo (nI j) = b1 j := by
  unfold bo
  rw [if_pos (sn_ne1 h)]
  rfl
theorem bo_m : bo (-1) = 0 := by
  unfold bo
  rw [if_neg (sn_nn rfl)]
theorem c_shot {A : sA} {R : Nat → List Nat} {t q σ : Nat} {I : sm_MI} (hw : wA A) (hr : rW R) (hc : cA A t I) (hR : rC R (t + 14) I) (hσ : σ < 2) (q18 : q ≠ t + 18) (q19 : q ≠ t + 19) :
    ∃ I', F_War_shot t q (nI σ) I = some (bo (wt A R σ (I q)), I') ∧ ∀ k, k ≠ t + 18 → k ≠ t + 19 → I' k = I k := by
  obtain ⟨M, e1, e2⟩ := c_holds (q := q) hw hr hc hR hσ q18 q19
  unfold F_War_shot wt
  rw [e1]
  cases hf A R σ (I q)
  · obtain ⟨M', e3, e4⟩ := c_target (q := q) hw hr (cA_fr hc e2) (rC_fr hR e2) hσ q18 q19
    rw [e2 q q18 q19] at e3
    refine ⟨M', ?_, fun k a b => by rw [e4 k a b, e2 k a b]⟩
    simp only [y_q2, Bool.false_eq_true, ↓reduceIte, e3]
    unfold F_War_bitOf bo
    by_cases h : tg A R σ (I q) = -1
    · rw [if_neg (sn_nn h), if_neg (sn_nn h)]; rfl
    · rw [if_pos h, if_pos h]; rfl
  · refine ⟨M, ?_, e2⟩
    simp only [y_q2, ↓reduceIte, x_10, bo_m]
theorem c_passDay {A : sA} {R : Nat → List Nat} {t q : Nat} {I : sm_MI} (hw : wA A) (hr : rW R) (hc : cA A t I) (hR : rC R (t + 14) I) (hq : q < t ∨ t + 20 ≤ q) :
    ∃ I', F_War_passDay t q I = some (fl A R (I q), I') ∧ I' q = dy A R (I q) ∧ ∀ k, k ≠ t + 18 → k ≠ t + 19 → k ≠ q → I' k = I k := by
  unfold F_War_passDay
  rw [c_isEvening hw hc, sn_q1]
  have go : eve A (I q) = false → ∃ I', F_War_passDay_19 t q I = some (fl A R (I q), I') ∧ I' q = dy A R (I q) ∧ ∀ k, k ≠ t + 18 → k ≠ t + 19 → k ≠ q → I' k = I k := by
    intro he
    obtain ⟨M, e1, e2⟩ := c_shot (q := q) (σ := 0) hw hr hc hR (by omega) (by omega) (by omega)
    obtain ⟨M', e3, e4⟩ := c_shot (q := q) (σ := 1) hw hr (cA_fr hc e2) (rC_fr hR e2) (by omega) (by omega) (by omega)
    rw [e2 q (by omega) (by omega)] at e3
    have e5 : M' q = I q := by rw [e4 q (by omega) (by omega), e2 q (by omega) (by omega)]
    have hfl : fl A R (I q) = bo (wt A R 0 (I q)) ||| bo (wt A R 1 (I q)) := by unfold fl; rw [he]; rfl
    unfold F_War_passDay_19
    have e1 : F_War_shot t q 0 I = some (bo (wt A R 0 (I q)), M) := e1
    have e3 : F_War_shot t q 1 M = some (bo (wt A R 1 (I q)), M') := e3
    rw [e1, sn_q2, e3, sn_q2, sn_lt, ← hfl]
    unfold F_State_fell F_War_passDay_32
    simp only [y_lt, y_q1]
    refine ⟨_, rfl, ?_, ?_⟩
    · funext k
      rcases k with _ | _ | _ | _ | _ | k <;> simp (disch := omega) only [↓g_in, ↓g_c0, ↓g_c1, ↓reduceIte, y_lt, y_q1, y_q2, sn_q3, sn_t1l, sn_t1r, sn_t2l, sn_t2r, nI_clamp, x_leT, x_leF, x_ltT, x_ltF, x_eqT, x_eqF, x_le0T, x_le0F, x_0leT, x_lt0F, x_0ltT, x_0ltF, x_eq0T, x_eq0F, x_le1T, x_le1F, x_1leT, x_1leF, x_1ltT, x_1ltF, x_lt1T, x_lt1F, x_eq1T, x_eq1F, x_m1F, nI_add, nI_1, sn_mul, x_sub, x_sub1, sn_m1, l2, l3, l4, l5, l6, l7, l8, l9, l10, l11, l12, l13, l14, l15, l20, l30, l40, l48, l60, l64, l99, l100, l700, l999, not_true_eq_false, not_false_eq_true, x_t0, x_t1, lts1, x_10, x_1sub, eq_self, Nat.reduceSub, Nat.reduceAdd, Nat.reduceMul, up_s, up_m, e5] <;> simp only [dy, he, Bool.false_eq_true, if_false]
    · intro k h1 h2 h3
      rw [up_n h3, up_n h3, up_n h3, e4 k h1 h2, e2 k h1 h2]
  by_cases h1 : sd_mod (I q 3) (nI (A 0 2)) = 0
  · rw [if_pos h1, if_neg n10, c_singable hw hc, sn_q1]
    by_cases h2 : sg A (I q 0) = 0
    · rw [if_pos h2]
      exact go (by unfold eve; rw [decide_eq_false (sn_nn h2), Bool.and_false])
    · rw [if_neg h2]
      have he : eve A (I q) = true := by unfold eve; rw [decide_eq_true h1, decide_eq_true h2]; rfl
      have hfl : fl A R (I q) = 0 := by unfold fl; rw [he]; rfl
      unfold F_War_passDay_32
      simp only [y_lt]
      refine ⟨_, by rw [hfl], ?_, ?_⟩
      · funext k
        rcases k with _ | _ | _ | _ | _ | k <;> simp (disch := omega) only [↓g_in, ↓g_c0, ↓g_c1, ↓reduceIte, y_lt, y_q1, y_q2, sn_q3, sn_t1l, sn_t1r, sn_t2l, sn_t2r, nI_clamp, x_leT, x_leF, x_ltT, x_ltF, x_eqT, x_eqF, x_le0T, x_le0F, x_0leT, x_lt0F, x_0ltT, x_0ltF, x_eq0T, x_eq0F, x_le1T, x_le1F, x_1leT, x_1leF, x_1ltT, x_1ltF, x_lt1T, x_lt1F, x_eq1T, x_eq1F, x_m1F, nI_add, nI_1, sn_mul, x_sub, x_sub1, sn_m1, l2, l3, l4, l5, l6, l7, l8, l9, l10, l11, l12, l13, l14, l15, l20, l30, l40, l48, l60, l64, l99, l100, l700, l999, not_true_eq_false, not_false_eq_true, x_t0, x_t1, lts1, x_10, x_1sub, eq_self, Nat.reduceSub, Nat.reduceAdd, Nat.reduceMul, up_s, up_m] <;> simp only [dy, he, if_true, hfl, an_n0, or0]
      · intro k h1 h2 h3
        rw [up_n h3, up_n h3]
  · rw [if_neg h1, if_pos rfl]
    exact go (by unfold eve; rw [decide_eq_false h1, Bool.false_and])
theorem tg_or {A : sA} {R : Nat → List Nat} {σ : Nat} {c : Nat → Int32} (hw : wA A) : tg A R σ c = -1 ∨ ∃ j, j < A 0 0 ∧ tg A R σ c = nI j ∧ bt (c 0) j = true ∧ A 1 j = 1 - σ := by
  have key : ∀ n, n ≤ 14 → (itr (tgs A R σ c) n (-1, 0)).1 = -1 ∨ ∃ j, j < A 0 0 ∧ (itr (tgs A R σ c) n (-1, 0)).1 = nI j ∧ bt (c 0) j = true ∧ A 1 j = 1 - σ := by
    intro n
    induction n with
    | zero => intro _; exact Or.inl rfl
    | succ n ih =>
      intro hn
      rw [itr]
      unfold tgs
      split
      · rename_i hb
        rw [b_and, bt_sd hw] at hb
        simp only [Bool.and_eq_true, decide_eq_true_eq] at hb
        split
        · exact Or.inr ⟨n, hb.1.1, rfl, hb.2, hb.1.2⟩
        · exact ih (by omega)
      · exact ih (by omega)
  exact key 14 (by omega)
theorem wt_or {A : sA} {R : Nat → List Nat} {σ : Nat} {c : Nat → Int32} (hw : wA A) : wt A R σ c = -1 ∨ ∃ j, j < A 0 0 ∧ wt A R σ c = nI j ∧ bt (c 0) j = true ∧ A 1 j = 1 - σ := by
  unfold wt
  split
  · exact Or.inl rfl
  · exact tg_or hw
theorem pc_b2 : ∀ a, a < 14 → ∀ b, b < 14 → a ≠ b → pc (b1 a ||| b1 b) = 2 := by decide +kernel
theorem pc_b1 : ∀ a, a < 14 → pc (b1 a) = 1 := by decide +kernel
theorem pc_0 : pc 0 = 0 := by decide +kernel
theorem or0' (x : Int32) : 0 ||| x = x := by
  apply b_ext
  intro i _
  rw [b_or, b_0, Bool.false_or]
theorem stR_fl {n : Nat} {m c m' c' : Nat → Int32} {f : Int32} (hn : n ≤ 14) (h : stR n m c) (hm : ∀ s, s < n → m' s = if bt f s then nI 2 else m s) (hf : ∀ s, bt f s = true → bt (c 0) s = true) (h0 : c' 0 = c 0 &&& (f ^^^ -1)) (h1 : c' 1 = c 1) (h2 : c' 2 = c 2 ||| f) (h3 : m' 14 = c' 3) (h4 : m' 15 = c' 4) : stR n m' c' := by
  refine ⟨fun i hi => ?_, fun s hs => ?_, h3, h4⟩
  · obtain ⟨a, b, d⟩ := h.1 i hi
    rw [h0, h1, h2, b_and, b_or, a, b, d]
    refine ⟨rfl, rfl, ?_⟩
    cases e : bt f i
    · rfl
    · rw [hf i e] at a; cases a
  · rw [hm s hs, h0, h1, h2, b_and, b_or, bt_not (by omega)]
    have hff := hf s
    rcases h.2.1 s hs with ⟨e, a, b, d⟩ | ⟨e, a, b, d⟩ | ⟨e, a, b, d⟩ <;> rw [e, a, b, d] <;> rw [a] at hff <;> cases e : bt f s <;> rw [e] at hff <;> simp_all
theorem m_day47 {p n : Nat} {I : sm_MI} {w0 w1 : Int32} (hn : n ≤ 14) (h0 : w0 = -1 ∨ ∃ a, a < n ∧ w0 = nI a) (h1 : w1 = -1 ∨ ∃ a, a < n ∧ w1 = nI a) (hne : ¬ w0 = -1 → ¬ w0 = w1) :
    ∃ I', F_Mo_dayGoes_47 p w0 w1 I = some (nI (pc (bo w0 ||| bo w1)), I') ∧ (∀ s, s < n → I' p s = if bt (bo w0 ||| bo w1) s then nI 2 else I p s) ∧ I' p 14 = I p 14 + 1 ∧ I' p 15 = I p 15 ∧ ∀ k, k ≠ p → I' k = I k := by
  unfold F_Mo_dayGoes_47 F_Mo_dayGoes_55 F_Mo_dayGoes_62 F_Mo_dayGoes_68 F_Mo_dayGoes_76
  rcases h0 with rfl | ⟨a, ha, rfl⟩ <;> rcases h1 with rfl | ⟨b, hb, rfl⟩
  · rw [bo_m, or0, pc_0]
    simp (disch := omega) only [↓g_in, ↓g_c0, ↓g_c1, ↓reduceIte, y_lt, y_q1, y_q2, sn_q3, sn_t1l, sn_t1r, sn_t2l, sn_t2r, nI_clamp, x_leT, x_leF, x_ltT, x_ltF, x_eqT, x_eqF, x_le0T, x_le0F, x_0leT, x_lt0F, x_0ltT, x_0ltF, x_eq0T, x_eq0F, x_le1T, x_le1F, x_1leT, x_1leF, x_1ltT, x_1ltF, x_lt1T, x_lt1F, x_eq1T, x_eq1F, x_m1F, nI_add, nI_1, sn_mul, x_sub, x_sub1, sn_m1, l2, l3, l4, l5, l6, l7, l8, l9, l10, l11, l12, l13, l14, l15, l20, l30, l40, l48, l60, l64, l99, l100, l700, l999, not_true_eq_false, not_false_eq_true, x_t0, x_t1, lts1, x_10, x_1sub, eq_self, Nat.reduceSub, Nat.reduceAdd, Nat.reduceMul, Int32.add_zero]
    refine ⟨_, rfl, fun s hs => ?_, up_s, up_m (by omega), fun k hk => up_n hk⟩
    rw [up_m (by omega), b_0]
    rfl
  · rw [bo_m, or0', bo_n (by omega), pc_b1 b (by omega)]
    simp (disch := omega) only [↓g_in, ↓g_c0, ↓g_c1, ↓reduceIte, y_lt, y_q1, y_q2, sn_q3, sn_t1l, sn_t1r, sn_t2l, sn_t2r, nI_clamp, x_leT, x_leF, x_ltT, x_ltF, x_eqT, x_eqF, x_le0T, x_le0F, x_0leT, x_lt0F, x_0ltT, x_0ltF, x_eq0T, x_eq0F, x_le1T, x_le1F, x_1leT, x_1leF, x_1ltT, x_1ltF, x_lt1T, x_lt1F, x_eq1T, x_eq1F, x_m1F, nI_add, nI_1, sn_mul, x_sub, x_sub1, sn_m1, l2, l3, l4, l5, l6, l7, l8, l9, l10, l11, l12, l13, l14, l15, l20, l30, l40, l48, l60, l64, l99, l100, l700, l999, not_true_eq_false, not_false_eq_true, x_t0, x_t1, lts1, x_10, x_1sub, eq_self, Nat.reduceSub, Nat.reduceAdd, Nat.reduceMul, Int32.zero_add]
    refine ⟨_, rfl, fun s hs => ?_, ?_, ?_, fun k hk => by rw [up_n hk, up_n hk]⟩
    · rw [bt_b1 (by omega) (by omega)]
      by_cases e : b = s
      · subst e; rw [up_m (by omega), up_s, decide_eq_true rfl]; rfl
      · rw [up_m (by omega), up_m (fun z => e z.symm), decide_eq_false e]; rfl
    · rw [up_s, up_m (by omega)]
    · rw [up_m (by omega), up_m (by omega)]
  · rw [bo_m, or0, bo_n (by omega), pc_b1 a (by omega)]
    simp (disch := omega) only [↓g_in, ↓g_c0, ↓g_c1, ↓reduceIte, y_lt, y_q1, y_q2, sn_q3, sn_t1l, sn_t1r, sn_t2l, sn_t2r, nI_clamp, x_leT, x_leF, x_ltT, x_ltF, x_eqT, x_eqF, x_le0T, x_le0F, x_0leT, x_lt0F, x_0ltT, x_0ltF, x_eq0T, x_eq0F, x_le1T, x_le1F, x_1leT, x_1leF, x_1ltT, x_1ltF, x_lt1T, x_lt1F, x_eq1T, x_eq1F, x_m1F, nI_add, nI_1, sn_mul, x_sub, x_sub1, sn_m1, l2, l3, l4, l5, l6, l7, l8, l9, l10, l11, l12, l13, l14, l15, l20, l30, l40, l48, l60, l64, l99, l100, l700, l999, not_true_eq_false, not_false_eq_true, x_t0, x_t1, lts1, x_10, x_1sub, eq_self, Nat.reduceSub, Nat.reduceAdd, Nat.reduceMul, Int32.add_zero]
    refine ⟨_, rfl, fun s hs => ?_, ?_, ?_, fun k hk => by rw [up_n hk, up_n hk]⟩
    · rw [bt_b1 (by omega) (by omega)]
      by_cases e : a = s
      · subst e; rw [up_m (by omega), up_s, decide_eq_true rfl]; rfl
      · rw [up_m (by omega), up_m (fun z => e z.symm), decide_eq_false e]; rfl
    · rw [up_s, up_m (by omega)]
    · rw [up_m (by omega), up_m (by omega)]
  · have hab : a ≠ b := fun z => hne (sn_ne1 (by omega)) (by rw [z])
    rw [bo_n (by omega), bo_n (by omega), pc_b2 a (by omega) b (by omega) hab]
    simp (disch := omega) only [↓g_in, ↓g_c0, ↓g_c1, ↓reduceIte, y_lt, y_q1, y_q2, sn_q3, sn_t1l, sn_t1r, sn_t2l, sn_t2r, nI_clamp, x_leT, x_leF, x_ltT, x_ltF, x_eqT, x_eqF, x_le0T, x_le0F, x_0leT, x_lt0F, x_0ltT, x_0ltF, x_eq0T, x_eq0F, x_le1T, x_le1F, x_1leT, x_1leF, x_1ltT, x_1ltF, x_lt1T, x_lt1F, x_eq1T, x_eq1F, x_m1F, nI_add, nI_1, sn_mul, x_sub, x_sub1, sn_m1, l2, l3, l4, l5, l6, l7, l8, l9, l10, l11, l12, l13, l14, l15, l20, l30, l40, l48, l60, l64, l99, l100, l700, l999, not_true_eq_false, not_false_eq_true, x_t0, x_t1, lts1, x_10, x_1sub, eq_self, Nat.reduceSub, Nat.reduceAdd, Nat.reduceMul]
    refine ⟨_, rfl, fun s hs => ?_, ?_, ?_, fun k hk => by rw [up_n hk, up_n hk, up_n hk]⟩
    · rw [b_or, bt_b1 (by omega) (by omega), bt_b1 (by omega) (by omega), up_m (by omega)]
      by_cases e : a = s
      · subst e; rw [up_m hab, up_s, decide_eq_true rfl]; rfl
      · by_cases e2 : b = s
        · subst e2; rw [up_s, decide_eq_true rfl, Bool.or_true]; rfl
        · rw [up_m (fun z => e2 z.symm), up_m (fun z => e z.symm), decide_eq_false e, decide_eq_false e2]; rfl
    · rw [up_s, up_m (by omega), up_m (by omega)]
    · rw [up_m (by omega), up_m (by omega), up_m (by omega)]
theorem m_day {A : sA} {R : Nat → List Nat} {p : Nat} {I : sm_MI} {c : Nat → Int32} (hw : wA A) (hr : rW R) (hm : mA A I) (hM : rM R I) (hs : stR (A 0 0) (I p) c) (p1 : p ≠ 89) (p2 : p ≠ 90) :
    ∃ I', F_Mo_dayGoes p I = some (nI (pc (fl A R c)), I') ∧ stR (A 0 0) (I' p) (dy A R c) ∧ ∀ k, k ≠ 89 → k ≠ 90 → k ≠ p → I' k = I k := by
  have hn := hw.1
  have n1 := hw.2.2.1
  have n2 := hw.2.2.2.1
  have go : eve A c = false → ∃ I', F_Mo_dayGoes_24 p I = some (nI (pc (fl A R c)), I') ∧ stR (A 0 0) (I' p) (dy A R c) ∧ ∀ k, k ≠ 89 → k ≠ 90 → k ≠ p → I' k = I k := by
    intro he
    have hfl : fl A R c = bo (wt A R 0 c) ||| bo (wt A R 1 c) := by unfold fl; rw [he]; rfl
    have fin : ∀ M : sm_MI, (∀ k, k ≠ 89 → k ≠ 90 → M k = I k) → ∃ I', F_Mo_dayGoes_47 p (wt A R 0 c) (wt A R 1 c) M = some (nI (pc (fl A R c)), I') ∧ stR (A 0 0) (I' p) (dy A R c) ∧ ∀ k, k ≠ 89 → k ≠ 90 → k ≠ p → I' k = I k := by
      intro M h2
      have w0 := wt_or (A := A) (R := R) (σ := 0) (c := c) hw
      have w1 := wt_or (A := A) (R := R) (σ := 1) (c := c) hw
      obtain ⟨I', g1, g2, g3, g4, g5⟩ := m_day47 (p := p) (I := M) hn (w0.imp id (fun ⟨a, h1, h2, _⟩ => ⟨a, h1, h2⟩)) (w1.imp id (fun ⟨a, h1, h2, _⟩ => ⟨a, h1, h2⟩)) (fun z1 z2 => by
        rcases w0 with h | ⟨a, a1, a2, a3, a4⟩
        · exact z1 h
        · rcases w1 with h | ⟨b, b1, b2, b3, b4⟩
          · exact z1 (z2.trans h)
          · rw [a2, b2, nI_eq (by omega) (by omega)] at z2
            subst z2
            omega)
      rw [← hfl] at g1 g2
      refine ⟨I', g1, ?_, fun k h3 h4 h5 => by rw [g5 k h5, h2 k h3 h4]⟩
      rw [h2 p p1 p2] at g2 g3 g4
      refine stR_fl (f := fl A R c) hn hs g2 ?_ rfl rfl rfl ?_ ?_
      · intro s hsb
        rw [hfl] at hsb
        by_cases h32 : s < 32
        · rcases w0 with h | ⟨a, a1, a2, a3, a4⟩ <;> rcases w1 with h' | ⟨b, b1, b2, b3, b4⟩
          · rw [h, h', bo_m, or0, b_0] at hsb; cases hsb
          · rw [h, b2, bo_m, or0', bo_n (by omega), bt_b1 (by omega) h32, decide_eq_true_eq] at hsb
            rw [← hsb]; exact b3
          · rw [a2, h', bo_m, or0, bo_n (by omega), bt_b1 (by omega) h32, decide_eq_true_eq] at hsb
            rw [← hsb]; exact a3
          · rw [a2, b2, bo_n (by omega), bo_n (by omega), b_or, bt_b1 (by omega) h32, bt_b1 (by omega) h32, Bool.or_eq_true, decide_eq_true_eq, decide_eq_true_eq] at hsb
            rcases hsb with rfl | rfl
            · exact a3
            · exact b3
        · rw [b_big (by omega)] at hsb; cases hsb
      · rw [g3, hs.2.2.1]; rfl
      · rw [g4, hs.2.2.2]
        show c 4 = if eve A c then c 4 + 1 else c 4
        rw [he]; rfl
    obtain ⟨M, e1, e2⟩ := m_holds (p := p) (σ := 0) hw hr hm hM hs (by omega) p1 p2
    have go2 : ∀ M : sm_MI, (∀ k, k ≠ 89 → k ≠ 90 → M k = I k) → ∃ I', F_Mo_dayGoes_35 p (wt A R 0 c) M = some (nI (pc (fl A R c)), I') ∧ stR (A 0 0) (I' p) (dy A R c) ∧ ∀ k, k ≠ 89 → k ≠ 90 → k ≠ p → I' k = I k := by
      intro M h2
      obtain ⟨M', e3, e4⟩ := m_holds (p := p) (σ := 1) (c := c) hw hr (mA_fr hm h2) (rM_fr hM h2) (by rw [h2 p p1 p2]; exact hs) (by omega) p1 p2
      have h4 : ∀ k, k ≠ 89 → k ≠ 90 → M' k = I k := fun k a b => by rw [e4 k a b, h2 k a b]
      unfold F_Mo_dayGoes_35
      have e3 : F_Mo_isHolding p 1 M = some (if hf A R 1 c = true then 1 else 0, M') := e3
      rw [e3, sn_q2]
      have hw1 : wt A R 1 c = if hf A R 1 c then -1 else tg A R 1 c := rfl
      cases hh : hf A R 1 c
      · rw [hh, if_neg (by decide)] at hw1
        obtain ⟨M2, e5, e6⟩ := m_aims (p := p) (σ := 1) (c := c) hw hr (mA_fr hm h4) (rM_fr hM h4) (by rw [h4 p p1 p2]; exact hs) (by omega) p1 p2
        have e5 : F_Mo_aims p 1 M' = some (tg A R 1 c, M2) := e5
        simp only [Bool.false_eq_true, ↓reduceIte, e5, y_q2, ← hw1]
        exact fin M2 (fun k a b => by rw [e6 k a b, h4 k a b])
      · rw [hh, if_pos rfl] at hw1
        simp only [↓reduceIte, x_10, ← hw1]
        exact fin M' h4
    unfold F_Mo_dayGoes_24
    have e1 : F_Mo_isHolding p 0 I = some (if hf A R 0 c = true then 1 else 0, M) := e1
    rw [e1, sn_q2]
    have hw0 : wt A R 0 c = if hf A R 0 c then -1 else tg A R 0 c := rfl
    cases hh : hf A R 0 c
    · rw [hh, if_neg (by decide)] at hw0
      obtain ⟨M2, e5, e6⟩ := m_aims (p := p) (σ := 0) (c := c) hw hr (mA_fr hm e2) (rM_fr hM e2) (by rw [e2 p p1 p2]; exact hs) (by omega) p1 p2
      have e5 : F_Mo_aims p 0 M = some (tg A R 0 c, M2) := e5
      simp only [Bool.false_eq_true, ↓reduceIte, e5, y_q2, ← hw0]
      exact go2 M2 (fun k a b => by rw [e6 k a b, e2 k a b])
    · rw [hh, if_pos rfl] at hw0
      simp only [↓reduceIte, x_10, ← hw0]
      exact go2 M e2
  unfold F_Mo_dayGoes
  rw [hm.2.2.1, hs.2.2.1, mo_so0 hw hm hs, sn_q1, mo_sungBy hw hm, sn_q1]
  by_cases h1 : sd_mod (c 3) (nI (A 0 2)) = 0
  · by_cases h2 : sg A (c 0) = 0
    · simp (disch := omega) only [↓g_in, ↓g_c0, ↓g_c1, ↓reduceIte, y_lt, y_q1, y_q2, sn_q3, sn_t1l, sn_t1r, sn_t2l, sn_t2r, nI_clamp, x_leT, x_leF, x_ltT, x_ltF, x_eqT, x_eqF, x_le0T, x_le0F, x_0leT, x_lt0F, x_0ltT, x_0ltF, x_eq0T, x_eq0F, x_le1T, x_le1F, x_1leT, x_1leF, x_1ltT, x_1ltF, x_lt1T, x_lt1F, x_eq1T, x_eq1F, x_m1F, nI_add, nI_1, sn_mul, x_sub, x_sub1, sn_m1, l2, l3, l4, l5, l6, l7, l8, l9, l10, l11, l12, l13, l14, l15, l20, l30, l40, l48, l60, l64, l99, l100, l700, l999, not_true_eq_false, not_false_eq_true, x_t0, x_t1, lts1, x_10, x_1sub, eq_self, Nat.reduceSub, Nat.reduceAdd, Nat.reduceMul, h1, h2, ↓sn_gu (nI_ne0 n1 (show A 0 2 < 2 ^ 31 by omega))]
      exact go (by unfold eve; rw [decide_eq_false (sn_nn h2), Bool.and_false])
    · have he : eve A c = true := by unfold eve; rw [decide_eq_true h1, decide_eq_true h2]; rfl
      have hfl : fl A R c = 0 := by unfold fl; rw [he]; rfl
      unfold F_Mo_dayGoes_76
      simp (disch := omega) only [↓g_in, ↓g_c0, ↓g_c1, ↓reduceIte, y_lt, y_q1, y_q2, sn_q3, sn_t1l, sn_t1r, sn_t2l, sn_t2r, nI_clamp, x_leT, x_leF, x_ltT, x_ltF, x_eqT, x_eqF, x_le0T, x_le0F, x_0leT, x_lt0F, x_0ltT, x_0ltF, x_eq0T, x_eq0F, x_le1T, x_le1F, x_1leT, x_1leF, x_1ltT, x_1ltF, x_lt1T, x_lt1F, x_eq1T, x_eq1F, x_m1F, nI_add, nI_1, sn_mul, x_sub, x_sub1, sn_m1, l2, l3, l4, l5, l6, l7, l8, l9, l10, l11, l12, l13, l14, l15, l20, l30, l40, l48, l60, l64, l99, l100, l700, l999, not_true_eq_false, not_false_eq_true, x_t0, x_t1, lts1, x_10, x_1sub, eq_self, Nat.reduceSub, Nat.reduceAdd, Nat.reduceMul, h1, h2, ↓sn_gu (nI_ne0 n1 (show A 0 2 < 2 ^ 31 by omega)), hfl, pc_0]
      refine ⟨_, rfl, ?_, fun k h3 h4 h5 => by rw [up_n h5, up_n h5]⟩
      refine stR_fl (f := 0) hn hs (fun s hs => ?_) (fun s hb => by rw [b_0] at hb; cases hb) ?_ rfl ?_ ?_ ?_
      · rw [up_m (by omega), up_m (by omega), b_0]; rfl
      · show c 0 &&& (fl A R c ^^^ -1) = _; rw [hfl]
      · show c 2 ||| fl A R c = _; rw [hfl]
      · rw [up_s, up_m (by omega), hs.2.2.1]; rfl
      · rw [up_m (by omega), up_s, hs.2.2.2]
        show _ = if eve A c then c 4 + 1 else c 4
        rw [he]; rfl
  · simp (disch := omega) only [↓g_in, ↓g_c0, ↓g_c1, ↓reduceIte, y_lt, y_q1, y_q2, sn_q3, sn_t1l, sn_t1r, sn_t2l, sn_t2r, nI_clamp, x_leT, x_leF, x_ltT, x_ltF, x_eqT, x_eqF, x_le0T, x_le0F, x_0leT, x_lt0F, x_0ltT, x_0ltF, x_eq0T, x_eq0F, x_le1T, x_le1F, x_1leT, x_1leF, x_1ltT, x_1ltF, x_lt1T, x_lt1F, x_eq1T, x_eq1F, x_m1F, nI_add, nI_1, sn_mul, x_sub, x_sub1, sn_m1, l2, l3, l4, l5, l6, l7, l8, l9, l10, l11, l12, l13, l14, l15, l20, l30, l40, l48, l60, l64, l99, l100, l700, l999, not_true_eq_false, not_false_eq_true, x_t0, x_t1, lts1, x_10, x_1sub, eq_self, Nat.reduceSub, Nat.reduceAdd, Nat.reduceMul, h1, ↓sn_gu (nI_ne0 n1 (show A 0 2 < 2 ^ 31 by omega))]
    exact go (by unfold eve; rw [decide_eq_false h1, Bool.false_and])
