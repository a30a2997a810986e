/-! ===== the model's words ===== -/
def pkn (b : Nat → Nat) : Nat → Nat → Nat → Nat
  | 0, _, a => a
  | m + 1, i, a => pkn b m (i + 1) (a * 32 + (b i - 96))
theorem pkn_snoc {b : Nat → Nat} : ∀ m i a, pkn b (m + 1) i a = pkn b m i a * 32 + (b (i + m) - 96)
  | 0, i, a => by simp only [pkn, Nat.add_zero]
  | m + 1, i, a => by
    show pkn b (m + 1) (i + 1) (a * 32 + (b i - 96)) = pkn b m (i + 1) (a * 32 + (b i - 96)) * 32 + _
    rw [pkn_snoc m (i + 1), show i + 1 + m = i + (m + 1) by omega]
theorem nvl_snoc {b : Nat → Nat} : ∀ m i a, nvl b (m + 1) i a = nvl b m i a * 10 + b (i + m) - 48
  | 0, i, a => by simp only [nvl, Nat.add_zero]
  | m + 1, i, a => by
    show nvl b (m + 1) (i + 1) (a * 10 + b i - 48) = nvl b m (i + 1) (a * 10 + b i - 48) * 10 + _ - 48
    rw [nvl_snoc m (i + 1), show i + 1 + m = i + (m + 1) by omega]
theorem pkn_lt {b : Nat → Nat} {i : Nat} : ∀ m, (∀ j, j < m → ltr (b (i + j)) = true) → pkn b m i 0 < 32 ^ m
  | 0, h => by simp [pkn]
  | m + 1, h => by
    have h1 := ltr_iff.mp (h m (by omega))
    have ih := pkn_lt m (fun j hj => h j (by omega))
    rw [pkn_snoc, Nat.pow_succ]
    omega
theorem pkn_35 {b : Nat → Nat} {i m : Nat} (hm : m ≤ 7) (h : ∀ j, j < m → ltr (b (i + j)) = true) : pkn b m i 0 < 34359738368 :=
  Nat.lt_of_lt_of_le (pkn_lt m h) (Nat.le_trans (Nat.pow_le_pow_right (by omega) hm) (by decide))
/-- two runs of letters that are packed alike are alike -/
theorem pkn_inj {b c : Nat → Nat} {i i' : Nat} : ∀ m m', (∀ j, j < m → ltr (b (i + j)) = true) → (∀ j, j < m' → ltr (c (i' + j)) = true) → pkn b m i 0 = pkn c m' i' 0 → m = m' ∧ ∀ j, j < m → b (i + j) = c (i' + j)
  | 0, 0, h, h', e => ⟨rfl, fun j hj => absurd hj (by omega)⟩
  | 0, m' + 1, h, h', e => by
    have h1 := ltr_iff.mp (h' m' (by omega))
    rw [pkn_snoc] at e
    have e : 0 = _ := e
    omega
  | m + 1, 0, h, h', e => by
    have h1 := ltr_iff.mp (h m (by omega))
    rw [pkn_snoc] at e
    have e : _ = 0 := e
    omega
  | m + 1, m' + 1, h, h', e => by
    have h1 := ltr_iff.mp (h m (by omega))
    have h2 := ltr_iff.mp (h' m' (by omega))
    rw [pkn_snoc, pkn_snoc] at e
    obtain ⟨e1, e2⟩ := pkn_inj m m' (fun j hj => h j (by omega)) (fun j hj => h' j (by omega)) (by omega)
    subst e1
    refine ⟨rfl, fun j hj => ?_⟩
    by_cases g : j = m
    · subst g; omega
    · exact e2 j (by omega)
theorem sbt_eq {b c : Nat → Nat} : ∀ m i i', sbt b m i = sbt c m i' ↔ ∀ j, j < m → b (i + j) = c (i' + j)
  | 0, i, i' => by rw [sbt_0, sbt_0]; exact ⟨fun _ j hj => absurd hj (by omega), fun _ => rfl⟩
  | m + 1, i, i' => by
    have ih := sbt_eq (b := b) (c := c) m (i + 1) (i' + 1)
    show b i :: sbt b m (i + 1) = c i' :: sbt c m (i' + 1) ↔ _
    rw [List.cons.injEq, ih]
    constructor
    · rintro ⟨h1, h2⟩ j hj
      cases j with
      | zero => exact h1
      | succ j => rw [show i + (j + 1) = i + 1 + j by omega, show i' + (j + 1) = i' + 1 + j by omega]; exact h2 j (by omega)
    · intro h
      exact ⟨h 0 (by omega), fun j hj => by rw [show i + 1 + j = i + (j + 1) by omega, show i' + 1 + j = i' + (j + 1) by omega]; exact h (j + 1) (by omega)⟩
def pkt (w : Nat) : Nat := pkn txt (wln w) (wsx w) 0
theorem isw_iff {b : Nat → Nat} {i l w : Nat} (hw : w < 24) (h : ∀ j, j < l → ltr (b (i + j)) = true) : isw b i l w = true ↔ pkt w = pkn b l i 0 := by
  have h1 := wsx_ok w hw
  unfold isw pkt
  rw [Bool.and_eq_true, decide_eq_true_eq, decide_eq_true_eq]
  constructor
  · rintro ⟨h2, h3⟩
    subst h2
    have h3 := (sbt_eq _ _ _).mp h3
    have key : ∀ m, m ≤ wln w → pkn txt m (wsx w) 0 = pkn b m i 0 := by
      intro m
      induction m with
      | zero => intro _; simp only [pkn]
      | succ m ih => intro hm; rw [pkn_snoc, pkn_snoc, ih (by omega), h3 m (by omega)]
    exact key _ (Nat.le_refl _)
  · intro e
    obtain ⟨e1, e2⟩ := pkn_inj _ _ (fun j hj => h1.2.2.2.2.2 j (by omega) hj) h e
    subst e1
    exact ⟨rfl, (sbt_eq _ _ _).mpr e2⟩
def mkw (q : Nat) : Int32 := if q ≤ 10 then nI (q + 10) else if q = 11 then 22 else if q = 12 then 21 else if q = 13 then 23 else if q ≤ 23 then nI (q - 14) else -1
def sgx (x : Nat) : Nat := if x ≤ 9 then x + 14 else if x ≤ 20 then x - 10 else if x = 21 then 12 else if x = 22 then 11 else 13
theorem sgx_ok : ∀ x, x < 24 → sgx x < 24 ∧ mkw (sgx x) = nI x ∧ F_Mo_letters (nI x) = some (lN (pkt (sgx x))) ∧ pkt (sgx x) < 34359738368 := by decide +kernel
theorem sgx_on : ∀ w, w < 24 → ∃ x, x < 24 ∧ sgx x = w := by decide +kernel
theorem pkt_in : ∀ w, w < 24 → ∀ v, v < 24 → pkt w = pkt v → w = v := by decide +kernel
theorem wif_at {b : Nat → Nat} {i l w : Nat} (h : isw b i l w = true) : ∀ m v, v ≤ w → w < v + m → (∀ u, v ≤ u → u < w → isw b i l u = false) → wif b i l m v = w
  | 0, v, hv, hv2, hu => absurd hv2 (by omega)
  | m + 1, v, hv, hv2, hu => by
    unfold wif
    by_cases g : v = w
    · subst g; rw [if_pos h]
    · rw [if_neg (by rw [hu v (Nat.le_refl _) (by omega)]; decide)]
      exact wif_at h m (v + 1) (by omega) (by omega) (fun u h1 h2 => hu u (by omega) h2)
theorem wif_no {b : Nat → Nat} {i l : Nat} : ∀ m v, (∀ u, v ≤ u → u < v + m → isw b i l u = false) → wif b i l m v = v + m
  | 0, v, h => rfl
  | m + 1, v, h => by
    unfold wif
    rw [if_neg (by rw [h v (Nat.le_refl _) (by omega)]; decide), wif_no m (v + 1) (fun u h1 h2 => h u (by omega) (by omega))]
    omega
theorem mkw_24 : mkw 24 = -1 := by decide
theorem mkw_no {q : Nat} (h : 24 ≤ q) : mkw q = -1 := by
  unfold mkw
  rw [if_neg (by omega), if_neg (by omega), if_neg (by omega), if_neg (by omega), if_neg (by omega)]
theorem m_search {b : Nat → Nat} {i l : Nat} {M : sm_MI} {J : sm_MJ} (hl : l ≤ 7) (h : ∀ j, j < l → ltr (b (i + j)) = true) (hJ : J 61 26 = lN (pkn b l i 0)) : ∀ m x f, x + m = 24 → m < f → (∀ y, y < x → isw b i l (sgx y) = false) →
    F_Mo_knownWord_12 M J f (nI x) = some (mkw (wif b i l 24 0))
  | 0, x, f, hx, hf, hn => by
    obtain ⟨f, rfl⟩ : ∃ g, f = g + 1 := ⟨f - 1, by omega⟩
    obtain rfl : x = 24 := by omega
    have e : wif b i l 24 0 = 0 + 24 := wif_no 24 0 (fun u _ hu => by
      obtain ⟨y, h1, h2⟩ := sgx_on u (by omega)
      rw [← h2]; exact hn y h1)
    have hu : ∀ a, F_Mo_knownWord_12 M J (f + 1) a = F_Mo_knownWord_12B (F_Mo_knownWord_12 M J f) a M J := fun _ => rfl
    rw [e, hu]
    unfold F_Mo_knownWord_12B
    simp (disch := omega) only [↓g_in, ↓g_c0, ↓g_c1, ↓reduceIte, ↓y_lt, ↓y_q1, ↓y_q2, ↓sn_q3, ↓sn_t1l, ↓sn_t1r, ↓sn_t2l, ↓sn_t2r, y_q1, y_q2, sn_q3, sn_t1l, sn_t1r, sn_t2l, sn_t2r, nI_clamp, x_leT, x_leF, x_ltT, x_ltF, x_eqT, x_eqF, x_le0T, x_le0F, x_0leT, x_lt0F, x_0ltT, x_0ltF, x_eq0T, x_eq0F, x_le1T, x_le1F, x_1leT, x_1leF, x_1ltT, x_1ltF, x_lt1T, x_lt1F, x_eq1T, x_eq1F, x_m1F, nI_add, nI_1, sn_mul, x_sub, x_sub1, sn_m1, l2, l3, l4, l5, l6, l7, l8, l9, l10, l11, l12, l13, l14, l15, l20, l30, l40, l48, l60, l64, l99, l100, l700, l999, not_true_eq_false, not_false_eq_true, x_t0, x_t1, lts1, x_10, x_1sub, eq_self, Nat.reduceSub, Nat.reduceAdd, Nat.reduceMul, l24]
    rfl
  | m + 1, x, f, hx, hf, hn => by
    obtain ⟨f, rfl⟩ : ∃ g, f = g + 1 := ⟨f - 1, by omega⟩
    obtain ⟨s1, s2, s3, s4⟩ := sgx_ok x (by omega)
    have pk := pkn_35 hl h
    have hu : ∀ a, F_Mo_knownWord_12 M J (f + 1) a = F_Mo_knownWord_12B (F_Mo_knownWord_12 M J f) a M J := fun _ => rfl
    rw [hu]
    unfold F_Mo_knownWord_12B
    rw [show (24 : Int32) = nI 24 from rfl, if_neg (nI_ge (show x < 24 by omega) (by omega)), q1_of s3, hJ]
    cases e : isw b i l (sgx x)
    · have ne : ¬ lg_cmp (lN (pkt (sgx x))) (lN (pkn b l i 0)) = 0 := fun z => by
        have := (isw_iff s1 h).mpr ((pk_lEQ (by omega) (by omega)).mp ((lg_cmp_eq _ _).mp z))
        rw [e] at this
        exact absurd this (by decide)
      rw [if_pos ne]
      have ih := m_search hl h hJ (M := M) m (x + 1) f (by omega) (by omega) (fun y hy => by
        by_cases g : y = x
        · rw [g]; exact e
        · exact hn y (by omega))
      rw [show nI x + 1 = nI (x + 1) from nI_add x 1]
      exact ih
    · have eq : lg_cmp (lN (pkt (sgx x))) (lN (pkn b l i 0)) = 0 := (lg_cmp_eq _ _).mpr (by rw [(isw_iff s1 h).mp e])
      rw [if_neg (sn_nn eq), wif_at e 24 0 (by omega) (by omega) (fun u _ hu => by
        cases g : isw b i l u
        · rfl
        · exfalso
          have := pkt_in u (by omega) (sgx x) s1 (((isw_iff (by omega) h).mp g).trans ((isw_iff s1 h).mp e).symm)
          omega), s2]
theorem m_known {b : Nat → Nat} {i l : Nat} {M : sm_MI} {J : sm_MJ} (hl : l ≤ 700) (h : ∀ j, j < l → ltr (b (i + j)) = true) (hJ : l ≤ 7 → J 61 26 = lN (pkn b l i 0)) (h1 : M 61 21 = 1) (h2 : M 61 23 = nI l) : F_Mo_knownWord M J = some (mkw (wif b i l 24 0)) := by
  unfold F_Mo_knownWord
  rw [h1, if_neg (sn_nn rfl), h2]
  by_cases e : l ≤ 7
  · rw [if_pos (show nI l ≤ 7 from nI_le (b := 7) e (by omega))]
    exact m_search e h (hJ e) 24 0 sd_fu (by omega) (by rw [sd_fu_val]; omega) (fun y hy => absurd hy (by omega))
  · rw [if_neg (show ¬ nI l ≤ 7 from nI_ge (a := 7) (by omega) (by omega)), wif_no 24 0 (fun u _ hu => by
      unfold isw
      have := wsx_ok u (by omega)
      rw [decide_eq_false (by omega), Bool.false_and])]
    rfl
