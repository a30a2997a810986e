/-! ===== loops, once more: what holds ahead of each round ===== -/
theorem lp_rel {α β : Type} (L : Nat → Int32 → α → Option β) (P : Nat → α → Prop) (Qf : β → Prop) (N : Nat)
    (h0 : ∀ f a, P N a → ∃ b, L (f + 1) (nI N) a = some b ∧ Qf b)
    (h1 : ∀ f j a, j < N → P j a → (∃ a', P (j + 1) a' ∧ L (f + 1) (nI j) a = L f (nI (j + 1)) a') ∨ ∃ b, L (f + 1) (nI j) a = some b ∧ Qf b) :
    ∀ m j f a, j + m = N → m < f → P j a → ∃ b, L f (nI j) a = some b ∧ Qf b
  | 0, j, f, a, hj, hf, hP => by
    obtain ⟨f, rfl⟩ : ∃ g, f = g + 1 := ⟨f - 1, by omega⟩
    have : j = N := by omega
    subst this
    exact h0 f a hP
  | m + 1, j, f, a, hj, hf, hP => by
    obtain ⟨f, rfl⟩ : ∃ g, f = g + 1 := ⟨f - 1, by omega⟩
    rcases h1 f j a (by omega) hP with ⟨a', h3, h4⟩ | h
    · rw [h4]
      exact lp_rel L P Qf N h0 h1 m (j + 1) f a' (by omega) (by omega) h3
    · exact h
theorem lp_R {α β : Type} (L : Nat → Int32 → α → Option β) (P : Nat → α → Prop) (Qf : β → Prop) (N : Nat) (a : α) (hP : P 0 a) (hN : N < 90000)
    (h0 : ∀ f a, P N a → ∃ b, L (f + 1) (nI N) a = some b ∧ Qf b)
    (h1 : ∀ f j a, j < N → P j a → (∃ a', P (j + 1) a' ∧ L (f + 1) (nI j) a = L f (nI (j + 1)) a') ∨ ∃ b, L (f + 1) (nI j) a = some b ∧ Qf b) :
    ∃ b, L sd_fu (nI 0) a = some b ∧ Qf b := lp_rel L P Qf N h0 h1 N 0 sd_fu a (by omega) (by rw [sd_fu_val]; omega) hP
/-! ===== the four rules: R 0, R 1 truces, R 2, R 3 aims; [] is none ===== -/
def nvs (ρ : Nat) : Nat := if ρ < 2 then 6 else 4
def ofs (ρ : Nat) : Nat := if ρ < 2 then 0 else 6
def rW (R : Nat → List Nat) : Prop := ∀ ρ, ρ < 4 → ¬ R ρ = [] → okp (nvs ρ) (R ρ) 0
def rC (R : Nat → List Nat) (p : Nat) (I : sm_MI) : Prop := ∀ ρ, ρ < 4 → ∃ a, I (p + 2) ρ = nI a ∧ I (p + 3) ρ = nI (a + (R ρ).length) ∧ a + (R ρ).length ≤ 700 ∧ ∀ i s, (R ρ)[i]? = some s → I (p + 1) (a + i) = nI s
def rM (R : Nat → List Nat) (I : sm_MI) : Prop := ∀ ρ, ρ < 4 → (R ρ = [] → I 70 ρ = -1) ∧ (¬ R ρ = [] → ∃ a, I 70 ρ = nI a ∧ (R ρ).length ≤ 700 ∧ ∀ i c, (mcs (ofs ρ) (R ρ))[i]? = some c → I 71 (a + i) = nI c ∧ a + i < 2800)
theorem up_e {I : sm_MI} {k k' j : Nat} {x : Int32} (h : ¬ k = k') : sd_up I k j x k' = I k' := up_n (fun z => h z.symm)
theorem cA_up {A : sA} {t : Nat} {I : sm_MI} {k j : Nat} {x : Int32} (hk : k < t ∨ t + 14 ≤ k) (h : cA A t I) : cA A t (sd_up I k j x) := cA_same h (fun i hi => up_n (by omega))
theorem rC_up {R : Nat → List Nat} {p : Nat} {I : sm_MI} {k j : Nat} {x : Int32} (hk : k ≤ p ∨ p + 4 ≤ k) (h : rC R p I) : rC R p (sd_up I k j x) := by
  unfold rC
  rw [up_n (show p + 1 ≠ k by omega), up_n (show p + 2 ≠ k by omega), up_n (show p + 3 ≠ k by omega)]
  exact h
theorem rM_up {R : Nat → List Nat} {I : sm_MI} {k j : Nat} {x : Int32} (hk : k < 70 ∨ 72 ≤ k) (h : rM R I) : rM R (sd_up I k j x) := by
  unfold rM
  rw [up_n (show 70 ≠ k by omega), up_n (show 71 ≠ k by omega)]
  exact h
theorem mA_of {A : sA} {I I' : sm_MI} (h : mA A I) (h1 : I' 61 1 = I 61 1) (h2 : I' 61 2 = I 61 2) (h3 : I' 61 3 = I 61 3) (hk : ∀ k, 62 ≤ k → k < 70 → I' k = I k) : mA A I' := by
  unfold mA at h ⊢
  rw [h1, h2, h3, hk 62 (by omega) (by omega), hk 63 (by omega) (by omega), hk 64 (by omega) (by omega), hk 65 (by omega) (by omega), hk 66 (by omega) (by omega), hk 67 (by omega) (by omega), hk 68 (by omega) (by omega), hk 69 (by omega) (by omega)]
  exact h
theorem mA_up {A : sA} {I : sm_MI} {k j : Nat} {x : Int32} (hk : k < 61 ∨ 70 ≤ k ∨ (k = 61 ∧ (j = 0 ∨ 4 ≤ j))) (h : mA A I) : mA A (sd_up I k j x) := by
  have key : ∀ i, 1 ≤ i → i ≤ 3 → sd_up I k j x 61 i = I 61 i := fun i h1 h2 => by
    by_cases e : k = 61
    · subst e; exact up_m (by omega)
    · rw [up_e e]
  exact mA_of h (key 1 (by omega) (by omega)) (key 2 (by omega) (by omega)) (key 3 (by omega) (by omega)) (fun i h1 h2 => up_n (by omega))
theorem c_has {R : Nat → List Nat} {p ρ : Nat} {I : sm_MI} (h : rC R p I) (hρ : ρ < 4) : F_Rules_has p (nI ρ) I = some (if R ρ = [] then 0 else 1) := by
  obtain ⟨a, h1, h2, h3, h4⟩ := h ρ hρ
  unfold F_Rules_has
  by_cases e : R ρ = []
  · rw [if_pos e]
    rw [e, List.length_nil, Nat.add_zero] at h2 h3
    simp (disch := omega) only [↓g_in, ↓g_c0, ↓g_c1, ↓reduceIte, y_lt, y_q1, y_q2, sn_q3, sn_t1l, sn_t1r, sn_t2l, sn_t2r, nI_clamp, x_leT, x_leF, x_ltT, x_ltF, x_eqT, x_eqF, x_le0T, x_le0F, x_0leT, x_lt0F, x_0ltT, x_0ltF, x_eq0T, x_eq0F, x_le1T, x_le1F, x_1leT, x_1leF, x_1ltT, x_1ltF, x_lt1T, x_lt1F, x_eq1T, x_eq1F, x_m1F, nI_add, nI_1, sn_mul, x_sub, x_sub1, sn_m1, l2, l3, l4, l5, l6, l7, l8, l9, l10, l11, l12, l13, l14, l15, l20, l30, l40, l48, l60, l64, l99, l100, l700, l999, not_true_eq_false, not_false_eq_true, x_t0, x_t1, lts1, x_10, x_1sub, eq_self, Nat.reduceSub, Nat.reduceAdd, Nat.reduceMul, h1, h2]
  · have := List.length_pos_iff.mpr e
    rw [if_neg e]
    simp (disch := omega) only [↓g_in, ↓g_c0, ↓g_c1, ↓reduceIte, y_lt, y_q1, y_q2, sn_q3, sn_t1l, sn_t1r, sn_t2l, sn_t2r, nI_clamp, x_leT, x_leF, x_ltT, x_ltF, x_eqT, x_eqF, x_le0T, x_le0F, x_0leT, x_lt0F, x_0ltT, x_0ltF, x_eq0T, x_eq0F, x_le1T, x_le1F, x_1leT, x_1leF, x_1ltT, x_1ltF, x_lt1T, x_lt1F, x_eq1T, x_eq1F, x_m1F, nI_add, nI_1, sn_mul, x_sub, x_sub1, sn_m1, l2, l3, l4, l5, l6, l7, l8, l9, l10, l11, l12, l13, l14, l15, l20, l30, l40, l48, l60, l64, l99, l100, l700, l999, not_true_eq_false, not_false_eq_true, x_t0, x_t1, lts1, x_10, x_1sub, eq_self, Nat.reduceSub, Nat.reduceAdd, Nat.reduceMul, h1, h2]
theorem c_result {R : Nat → List Nat} {p ρ nv : Nat} {val : Nat → Int32} {I : sm_MI} (h : rC R p I) (hρ : ρ < 4) (hn : nv ≤ 6) (hok : okp nv (R ρ) 0) (he : ¬ R ρ = []) (hv : ∀ k, k < nv → I (p + 4) k = val k) :
    ∃ I', F_Rules_result p (nI ρ) I = some (ev val (R ρ) [], I') ∧ ∀ k, k ≠ p + 5 → I' k = I k := by
  obtain ⟨a, h1, h2, h3, h4⟩ := h ρ hρ
  obtain ⟨I', e1, e2⟩ := c_res (p := p) (ρ := ρ) hn hρ (R ρ) a [] I sd_fu hok (Nat.zero_le _) trivial h4 h2 h3 hv (by rw [sd_fu_val]; omega)
  refine ⟨I', ?_, e2⟩
  unfold F_Rules_result
  rw [c_has h hρ, if_neg he]
  simp (disch := omega) only [↓g_in, ↓g_c0, ↓g_c1, ↓reduceIte, y_lt, y_q1, y_q2, sn_q3, sn_t1l, sn_t1r, sn_t2l, sn_t2r, nI_clamp, x_leT, x_leF, x_ltT, x_ltF, x_eqT, x_eqF, x_le0T, x_le0F, x_0leT, x_lt0F, x_0ltT, x_0ltF, x_eq0T, x_eq0F, x_le1T, x_le1F, x_1leT, x_1leF, x_1ltT, x_1ltF, x_lt1T, x_lt1F, x_eq1T, x_eq1F, x_m1F, nI_add, nI_1, sn_mul, x_sub, x_sub1, sn_m1, l2, l3, l4, l5, l6, l7, l8, l9, l10, l11, l12, l13, l14, l15, l20, l30, l40, l48, l60, l64, l99, l100, l700, l999, not_true_eq_false, not_false_eq_true, x_t0, x_t1, lts1, x_10, x_1sub, eq_self, Nat.reduceSub, Nat.reduceAdd, Nat.reduceMul, h1]
  exact e1
theorem mcs_ne {off : Nat} {P : List Nat} : ∃ c, (mcs off P)[0]? = some c := by
  cases P with
  | nil => exact ⟨0, rfl⟩
  | cons s P =>
    have : ∃ c r, mco off s = c :: r := by
      unfold mco
      split
      · exact ⟨_, _, rfl⟩
      · split
        · exact ⟨_, _, rfl⟩
        · split <;> exact ⟨_, _, rfl⟩
    obtain ⟨c, r, e⟩ := this
    exact ⟨c, by show (mco off s ++ mcs off P)[0]? = _; rw [e]; rfl⟩
theorem m_reckons {R : Nat → List Nat} {ρ a : Nat} {val : Nat → Int32} {I : sm_MI} (hρ : ρ < 4) (hok : okp (nvs ρ) (R ρ) 0) (hl : (R ρ).length ≤ 700) (hp : ∀ i c, (mcs (ofs ρ) (R ρ))[i]? = some c → I 71 (a + i) = nI c ∧ a + i < 2800) (hv : ∀ k, k < nvs ρ → I 89 (k + ofs ρ) = val k) :
    ∃ I', F_Mo_reckons (nI a) I = some (ev val (R ρ) [], I') ∧ ∀ k, k ≠ 90 → I' k = I k := by
  obtain ⟨I', e1, e2⟩ := m_res (nv := nvs ρ) (off := ofs ρ) (val := val) (by unfold nvs ofs; split <;> omega) (R ρ) a [] I sd_fu hok (Nat.zero_le _) trivial hp hv (by rw [sd_fu_val]; omega)
  exact ⟨I', e1, e2⟩
/-- how all are: c 0 free, c 1 caught, c 2 fallen, c 3 the day, c 4 sung; the model's row m -/
def stR (n : Nat) (m c : Nat → Int32) : Prop := (∀ i, n ≤ i → bt (c 0) i = false ∧ bt (c 1) i = false ∧ bt (c 2) i = false) ∧
  (∀ s, s < n → (m s = 0 ∧ bt (c 0) s = true ∧ bt (c 1) s = false ∧ bt (c 2) s = false) ∨ (m s = 1 ∧ bt (c 0) s = false ∧ bt (c 1) s = true ∧ bt (c 2) s = false) ∨ (m s = nI 2 ∧ bt (c 0) s = false ∧ bt (c 1) s = false ∧ bt (c 2) s = true)) ∧ m 14 = c 3 ∧ m 15 = c 4
theorem stR_up {n : Nat} {I : sm_MI} {c : Nat → Int32} {p k j : Nat} {x : Int32} (h : ¬ k = p) (hs : stR n (I p) c) : stR n (sd_up I k j x p) c := by rw [up_e h]; exact hs
theorem stR_lo {n : Nat} {m c : Nat → Int32} (hn : n ≤ 14) (h : stR n m c) : lo14 (c 0) ∧ lo14 (c 1) ∧ lo14 (c 2) := ⟨fun i hi => (h.1 i (by omega)).1, fun i hi => (h.1 i (by omega)).2.1, fun i hi => (h.1 i (by omega)).2.2⟩
theorem n01 : ¬ (0 : Int32) = 1 := by decide
theorem n02 : ¬ (0 : Int32) = nI 2 := by decide
theorem n12 : ¬ (1 : Int32) = nI 2 := by decide
theorem n10 : ¬ (1 : Int32) = 0 := by decide
theorem n20 : ¬ nI 2 = (0 : Int32) := by decide
theorem n21 : ¬ nI 2 = (1 : Int32) := by decide
theorem stR_b {n : Nat} {m c : Nat → Int32} (h : stR n m c) {s : Nat} (hs : s < n) : decide (m s = 0) = bt (c 0) s ∧ decide (m s = 1) = bt (c 1) s ∧ decide (m s = nI 2) = bt (c 2) s := by
  rcases h.2.1 s hs with ⟨e, a, b, d⟩ | ⟨e, a, b, d⟩ | ⟨e, a, b, d⟩ <;> rw [e, a, b, d] <;> simp only [n01, n02, n12, n10, n20, n21, decide_true, decide_false, and_self]
theorem bs_bits {n : Nat} {p : Nat → Bool} {x : Int32} (hn : n ≤ 14) (hx : ∀ i, n ≤ i → bt x i = false) (h : ∀ s, s < n → p s = bt x s) : bs p n = x := by
  apply b_ext
  intro i hi
  rw [bt_bs hi (by omega)]
  by_cases e : i < n
  · rw [decide_eq_true e, h i e, Bool.true_and]
  · rw [decide_eq_false e, hx i (by omega), Bool.false_and]
theorem mo_so0 {A : sA} {I : sm_MI} {p : Nat} {c : Nat → Int32} (hw : wA A) (hm : mA A I) (hs : stR (A 0 0) (I p) c) : F_Mo_areSo p 0 I = some (c 0) := by
  rw [mo_areSo hm.1 hw.1, bs_bits hw.1 (fun i hi => (hs.1 i hi).1) (fun s h => (stR_b hs h).1)]
theorem mo_so1 {A : sA} {I : sm_MI} {p : Nat} {c : Nat → Int32} (hw : wA A) (hm : mA A I) (hs : stR (A 0 0) (I p) c) : F_Mo_areSo p 1 I = some (c 1) := by
  rw [mo_areSo hm.1 hw.1, bs_bits hw.1 (fun i hi => (hs.1 i hi).2.1) (fun s h => (stR_b hs h).2.1)]
theorem mo_so2 {A : sA} {I : sm_MI} {p : Nat} {c : Nat → Int32} (hw : wA A) (hm : mA A I) (hs : stR (A 0 0) (I p) c) : F_Mo_areSo p (nI 2) I = some (c 2) := by
  rw [mo_areSo hm.1 hw.1, bs_bits hw.1 (fun i hi => (hs.1 i hi).2.2) (fun s h => (stR_b hs h).2.2)]
theorem an_c (x y : Int32) : x &&& y = y &&& x := by
  apply b_ext
  intro i _
  rw [b_and, b_and, Bool.and_comm]
/-! ===== who holds fire ===== -/
def vt (A : sA) (σ : Nat) (c : Nat → Int32) : Nat → Int32
  | 0 => c 3
  | 1 => c 4
  | 2 => nI (pc (sd A σ &&& c 0))
  | 3 => nI (pc (sd A (1 - σ) &&& c 0))
  | 4 => nI (pc (sd A σ &&& c 2))
  | _ => nI (pc (sg A (c 0)))
def hf (A : sA) (R : Nat → List Nat) (σ : Nat) (c : Nat → Int32) : Bool := decide (¬ R σ = []) && decide (0 < ev (vt A σ c) (R σ) [])
theorem c_ofSide' {A : sA} {t : Nat} {I : sm_MI} {k : Nat} (hc : cA A t I) (hk : k < 3) : F_Valley_ofSide t (nI k) I = some (sd A k) := c_ofSide hc hk
theorem lo14_sg {A : sA} {x : Int32} : lo14 (sg A x) := lo14_bs (by omega)
theorem hf_le {A : sA} {R : Nat → List Nat} {σ : Nat} {c : Nat → Int32} {α : Type} {M : α} (he : ¬ R σ = []) : (if ev (vt A σ c) (R σ) [] ≤ 0 then some ((0 : Int32), M) else some (1, M)) = some (if hf A R σ c then 1 else 0, M) := by
  unfold hf
  rw [decide_eq_true he, Bool.true_and]
  by_cases h : 0 < ev (vt A σ c) (R σ) []
  · rw [if_neg (Int32.not_le.mpr h), if_pos (decide_eq_true h)]
  · rw [if_pos (Int32.not_lt.mp h), if_neg (by simpa using h)]
theorem c_holds {A : sA} {R : Nat → List Nat} {t q σ : Nat} {I : sm_MI} (hw : wA A) (hr : rW R) (hc : cA A t I) (hR : rC R (t + 14) I) (hσ : σ < 2) (q18 : q ≠ t + 18) (q19 : q ≠ t + 19) :
    ∃ I', F_War_holdsFire t q (nI σ) I = some (if hf A R σ (I q) then 1 else 0, I') ∧ ∀ k, k ≠ t + 18 → k ≠ t + 19 → I' k = I k := by
  unfold F_War_holdsFire
  rw [c_has hR (by omega)]
  by_cases he : R σ = []
  · refine ⟨I, ?_, fun _ _ _ => rfl⟩
    rw [if_pos he, sn_q1, if_neg (sn_nn rfl)]
    unfold hf
    rw [decide_eq_false (sn_nn he)]
    rfl
  · have key : ∀ M : sm_MI, (∀ k, k < 6 → M (t + 18) k = vt A σ (I q) k) → (∀ k, k ≠ t + 18 → M k = I k) →
        ∃ I', (sd_q2 (F_Rules_result (t + 14) (nI σ) M) fun r21 I22 => if r21 ≤ 0 then some ((0 : Int32), I22) else some (1, I22)) = some (if hf A R σ (I q) then 1 else 0, I') ∧ ∀ k, k ≠ t + 18 → k ≠ t + 19 → I' k = I k := by
      intro M h1 h2
      have hRM : rC R (t + 14) M := by
        unfold rC
        rw [h2 _ (by omega), h2 _ (by omega), h2 _ (by omega)]
        exact hR
      obtain ⟨I', e1, e2⟩ := c_result (val := vt A σ (I q)) (nv := 6) hRM (show σ < 4 by omega) (by omega) (by have := hr σ (by omega) he; unfold nvs at this; rw [if_pos hσ] at this; exact this) he h1
      refine ⟨I', ?_, fun k h3 h4 => by rw [e2 k (by omega), h2 k h3]⟩
      rw [e1, sn_q2, hf_le he]
    rw [if_neg he, sn_q1, if_pos n10]
    simp (disch := first | assumption | ((repeat first | refine cA_up (by omega) ?_ | refine rC_up (by omega) ?_ | refine mA_up (by omega) ?_ | refine rM_up (by omega) ?_ | refine stR_up (by omega) ?_); assumption) | omega) only [↓g_in, ↓g_c0, ↓g_c1, ↓reduceIte, y_lt, y_q1, y_q2, sn_q3, sn_t1l, sn_t1r, sn_t2l, sn_t2r, nI_clamp, x_leT, x_leF, x_ltT, x_ltF, x_eqT, x_eqF, x_le0T, x_le0F, x_0leT, x_lt0F, x_0ltT, x_0ltF, x_eq0T, x_eq0F, x_le1T, x_le1F, x_1leT, x_1leF, x_1ltT, x_1ltF, x_lt1T, x_lt1F, x_eq1T, x_eq1F, x_m1F, nI_add, nI_1, sn_mul, x_sub, x_sub1, sn_m1, l2, l3, l4, l5, l6, l7, l8, l9, l10, l11, l12, l13, l14, l15, l20, l30, l40, l48, l60, l64, l99, l100, l700, l999, not_true_eq_false, not_false_eq_true, x_t0, x_t1, lts1, x_10, x_1sub, eq_self, Nat.reduceSub, Nat.reduceAdd, Nat.reduceMul, c_ofSide' (A := A), c_singable (A := A) hw, up_n, int_bc (lo14_and (lo14_sd hw)), int_bc lo14_sg]
    refine key _ ?_ (fun k hk => by simp (disch := omega) only [↓g_in, ↓g_c0, ↓g_c1, ↓reduceIte, y_lt, y_q1, y_q2, sn_q3, sn_t1l, sn_t1r, sn_t2l, sn_t2r, nI_clamp, x_leT, x_leF, x_ltT, x_ltF, x_eqT, x_eqF, x_le0T, x_le0F, x_0leT, x_lt0F, x_0ltT, x_0ltF, x_eq0T, x_eq0F, x_le1T, x_le1F, x_1leT, x_1leF, x_1ltT, x_1ltF, x_lt1T, x_lt1F, x_eq1T, x_eq1F, x_m1F, nI_add, nI_1, sn_mul, x_sub, x_sub1, sn_m1, l2, l3, l4, l5, l6, l7, l8, l9, l10, l11, l12, l13, l14, l15, l20, l30, l40, l48, l60, l64, l99, l100, l700, l999, not_true_eq_false, not_false_eq_true, x_t0, x_t1, lts1, x_10, x_1sub, eq_self, Nat.reduceSub, Nat.reduceAdd, Nat.reduceMul, up_n])
    intro k hk
    rcases (show k = 0 ∨ k = 1 ∨ k = 2 ∨ k = 3 ∨ k = 4 ∨ k = 5 by omega) with rfl | rfl | rfl | rfl | rfl | rfl <;> simp (disch := omega) only [↓g_in, ↓g_c0, ↓g_c1, ↓reduceIte, y_lt, y_q1, y_q2, sn_q3, sn_t1l, sn_t1r, sn_t2l, sn_t2r, nI_clamp, x_leT, x_leF, x_ltT, x_ltF, x_eqT, x_eqF, x_le0T, x_le0F, x_0leT, x_lt0F, x_0ltT, x_0ltF, x_eq0T, x_eq0F, x_le1T, x_le1F, x_1leT, x_1leF, x_1ltT, x_1ltF, x_lt1T, x_lt1F, x_eq1T, x_eq1F, x_m1F, nI_add, nI_1, sn_mul, x_sub, x_sub1, sn_m1, l2, l3, l4, l5, l6, l7, l8, l9, l10, l11, l12, l13, l14, l15, l20, l30, l40, l48, l60, l64, l99, l100, l700, l999, not_true_eq_false, not_false_eq_true, x_t0, x_t1, lts1, x_10, x_1sub, eq_self, Nat.reduceSub, Nat.reduceAdd, Nat.reduceMul, up_s, up_m] <;> rfl
theorem m_holds {A : sA} {R : Nat → List Nat} {p σ : Nat} {I : sm_MI} {c : Nat → Int32} (hw : wA A) (hr : rW R) (hm : mA A I) (hM : rM R I) (hs : stR (A 0 0) (I p) c) (hσ : σ < 2) (p1 : p ≠ 89) (p2 : p ≠ 90) :
    ∃ I', F_Mo_isHolding p (nI σ) I = some (if hf A R σ c then 1 else 0, I') ∧ ∀ k, k ≠ 89 → k ≠ 90 → I' k = I k := by
  unfold F_Mo_isHolding
  by_cases he : R σ = []
  · refine ⟨I, ?_, fun _ _ _ => rfl⟩
    have h := (hM σ (by omega)).1 he
    simp (disch := omega) only [↓g_in, ↓g_c0, ↓g_c1, ↓reduceIte, y_lt, y_q1, y_q2, sn_q3, sn_t1l, sn_t1r, sn_t2l, sn_t2r, nI_clamp, x_leT, x_leF, x_ltT, x_ltF, x_eqT, x_eqF, x_le0T, x_le0F, x_0leT, x_lt0F, x_0ltT, x_0ltF, x_eq0T, x_eq0F, x_le1T, x_le1F, x_1leT, x_1leF, x_1ltT, x_1ltF, x_lt1T, x_lt1F, x_eq1T, x_eq1F, x_m1F, nI_add, nI_1, sn_mul, x_sub, x_sub1, sn_m1, l2, l3, l4, l5, l6, l7, l8, l9, l10, l11, l12, l13, l14, l15, l20, l30, l40, l48, l60, l64, l99, l100, l700, l999, not_true_eq_false, not_false_eq_true, x_t0, x_t1, lts1, x_10, x_1sub, eq_self, Nat.reduceSub, Nat.reduceAdd, Nat.reduceMul, h]
    unfold hf
    rw [decide_eq_false (sn_nn he)]
    rfl
  · obtain ⟨a, h1, h2, h3⟩ := (hM σ (by omega)).2 he
    have ha : a < 2800 := by
      obtain ⟨z, hz⟩ := mcs_ne (off := ofs σ) (P := R σ)
      have := (h3 0 z hz).2
      omega
    have key : ∀ M : sm_MI, (∀ k, k < 6 → M 89 k = vt A σ c k) → (∀ k, k ≠ 89 → M k = I k) →
        ∃ I', (sd_q2 (F_Mo_reckons (nI a) M) fun r27 I28 => if r27 ≤ 0 then some ((0 : Int32), I28) else some (1, I28)) = some (if hf A R σ c then 1 else 0, I') ∧ ∀ k, k ≠ 89 → k ≠ 90 → I' k = I k := by
      intro M g1 g2
      obtain ⟨I', e1, e2⟩ := m_reckons (R := R) (ρ := σ) (a := a) (val := vt A σ c) (I := M) (by omega) (hr σ (by omega) he) h2 (by rw [g2 71 (by omega)]; exact h3) (by unfold nvs ofs; rw [if_pos hσ, if_pos hσ]; exact g1)
      refine ⟨I', ?_, fun k h3 h4 => by rw [e2 k h4, g2 k h3]⟩
      rw [e1, sn_q2, hf_le he]
    have e14 := hs.2.2.1
    have e15 := hs.2.2.2
    simp (disch := first | assumption | ((repeat first | refine cA_up (by omega) ?_ | refine rC_up (by omega) ?_ | refine mA_up (by omega) ?_ | refine rM_up (by omega) ?_ | refine stR_up (by omega) ?_); assumption) | omega) only [↓g_in, ↓g_c0, ↓g_c1, ↓reduceIte, y_lt, y_q1, y_q2, sn_q3, sn_t1l, sn_t1r, sn_t2l, sn_t2r, nI_clamp, x_leT, x_leF, x_ltT, x_ltF, x_eqT, x_eqF, x_le0T, x_le0F, x_0leT, x_lt0F, x_0ltT, x_0ltF, x_eq0T, x_eq0F, x_le1T, x_le1F, x_1leT, x_1leF, x_1ltT, x_1ltF, x_lt1T, x_lt1F, x_eq1T, x_eq1F, x_m1F, nI_add, nI_1, sn_mul, x_sub, x_sub1, sn_m1, l2, l3, l4, l5, l6, l7, l8, l9, l10, l11, l12, l13, l14, l15, l20, l30, l40, l48, l60, l64, l99, l100, l700, l999, not_true_eq_false, not_false_eq_true, x_t0, x_t1, lts1, x_10, x_1sub, eq_self, Nat.reduceSub, Nat.reduceAdd, Nat.reduceMul, h1, mo_so0 (A := A) (c := c) hw, mo_so2 (A := A) (c := c) hw, mo_ofSide' (A := A) hw, mo_sungBy (A := A) hw, mo_bits, up_n, e14, e15]
    refine key _ ?_ (fun k hk => by simp (disch := omega) only [↓g_in, ↓g_c0, ↓g_c1, ↓reduceIte, y_lt, y_q1, y_q2, sn_q3, sn_t1l, sn_t1r, sn_t2l, sn_t2r, nI_clamp, x_leT, x_leF, x_ltT, x_ltF, x_eqT, x_eqF, x_le0T, x_le0F, x_0leT, x_lt0F, x_0ltT, x_0ltF, x_eq0T, x_eq0F, x_le1T, x_le1F, x_1leT, x_1leF, x_1ltT, x_1ltF, x_lt1T, x_lt1F, x_eq1T, x_eq1F, x_m1F, nI_add, nI_1, sn_mul, x_sub, x_sub1, sn_m1, l2, l3, l4, l5, l6, l7, l8, l9, l10, l11, l12, l13, l14, l15, l20, l30, l40, l48, l60, l64, l99, l100, l700, l999, not_true_eq_false, not_false_eq_true, x_t0, x_t1, lts1, x_10, x_1sub, eq_self, Nat.reduceSub, Nat.reduceAdd, Nat.reduceMul, up_n])
    intro k hk
    rcases (show k = 0 ∨ k = 1 ∨ k = 2 ∨ k = 3 ∨ k = 4 ∨ k = 5 by omega) with rfl | rfl | rfl | rfl | rfl | rfl <;> simp (disch := omega) only [↓g_in, ↓g_c0, ↓g_c1, ↓reduceIte, y_lt, y_q1, y_q2, sn_q3, sn_t1l, sn_t1r, sn_t2l, sn_t2r, nI_clamp, x_leT, x_leF, x_ltT, x_ltF, x_eqT, x_eqF, x_le0T, x_le0F, x_0leT, x_lt0F, x_0ltT, x_0ltF, x_eq0T, x_eq0F, x_le1T, x_le1F, x_1leT, x_1leF, x_1ltT, x_1ltF, x_lt1T, x_lt1F, x_eq1T, x_eq1F, x_m1F, nI_add, nI_1, sn_mul, x_sub, x_sub1, sn_m1, l2, l3, l4, l5, l6, l7, l8, l9, l10, l11, l12, l13, l14, l15, l20, l30, l40, l48, l60, l64, l99, l100, l700, l999, not_true_eq_false, not_false_eq_true, x_t0, x_t1, lts1, x_10, x_1sub, eq_self, Nat.reduceSub, Nat.reduceAdd, Nat.reduceMul, up_s, up_m]
    · rfl
    · rfl
    · rw [an_c]; rfl
    · rw [an_c]; rfl
    · rw [an_c]; rfl
    · rfl
