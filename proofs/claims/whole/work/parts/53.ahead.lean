/-! ===== the days to come ===== -/
theorem lp_fs {σ β γ : Type} (L : Nat → Int32 → σ → Option β) (g : Nat → Option γ) (P : Nat → σ → Prop) (V : γ → β → Prop) (K : β → Prop) (N : Nat)
    (h0 : ∀ f s, P N s → ∃ b, L (f + 1) (nI N) s = some b ∧ K b)
    (h1 : ∀ f j s, j < N → P j s → (∀ v, g j = some v → ∃ b, L (f + 1) (nI j) s = some b ∧ V v b) ∧ (g j = none → ∃ s', P (j + 1) s' ∧ L (f + 1) (nI j) s = L f (nI (j + 1)) s')) :
    ∀ m j f s, j + m = N → m < f → P j s → ∃ b, L f (nI j) s = some b ∧ (∀ v, fx g m j = some v → V v b) ∧ (fx g m j = none → K b)
  | 0, j, f, s, hj, hf, hP => by
    obtain ⟨f, rfl⟩ : ∃ g, f = g + 1 := ⟨f - 1, by omega⟩
    have : j = N := by omega
    subst this
    obtain ⟨b, e, hb⟩ := h0 f s hP
    exact ⟨b, e, fun v hv => (by cases hv), fun _ => hb⟩
  | m + 1, j, f, s, hj, hf, hP => by
    obtain ⟨f, rfl⟩ : ∃ g, f = g + 1 := ⟨f - 1, by omega⟩
    obtain ⟨g1, g2⟩ := h1 f j s (by omega) hP
    rw [fx]
    cases hg : g j with
    | some v =>
      obtain ⟨b, e, hb⟩ := g1 v hg
      exact ⟨b, e, fun w hw => (by cases hw; exact hb), fun hn => (by cases hn)⟩
    | none =>
      obtain ⟨s', h3, h4⟩ := g2 hg
      rw [h4]
      exact lp_fs L g P V K N h0 h1 m (j + 1) f s' (by omega) (by omega) h3
theorem sdn86 : sd_n 86 = 16 := by decide +kernel
theorem sdn87 : sd_n 87 = 16 := by decide +kernel
theorem m_copies {p q N : Nat} {I : sm_MI} (hp : sd_n p = N) (hq : sd_n q = N) (hne : p ≠ q) (hN : N < 90000) : ∃ I', F_Mo_copies p q I = some I' ∧ (∀ j, j < N → I' q j = I p j) ∧ ∀ k, k ≠ q → I' k = I k := by
  have lp := lp_R (fun f j (s : sm_MI) => F_Mo_copies_2 p q f j s) (fun j s => (∀ i, i < j → s q i = I p i) ∧ ∀ k, k ≠ q → s k = I k) (fun b => (∀ i, i < N → b q i = I p i) ∧ ∀ k, k ≠ q → b k = I k) N I ⟨fun i hi => absurd hi (by omega), fun _ _ => rfl⟩ hN ?_ ?_
  · obtain ⟨b, e, hb⟩ := lp
    exact ⟨b, e, hb.1, hb.2⟩
  · intro f s hs
    refine ⟨s, ?_, hs⟩
    show F_Mo_copies_2B p q (F_Mo_copies_2 p q f) (nI N) s = _
    unfold F_Mo_copies_2B
    rw [hp]
    exact if_pos (Int32.le_refl _)
  · intro f j s hj hs
    left
    refine ⟨sd_up s q j (I p j), ⟨fun i hi => ?_, fun k hk => by rw [up_n hk, hs.2 k hk]⟩, ?_⟩
    · by_cases e : i = j
      · subst e; exact up_s
      · rw [up_m e]; exact hs.1 i (by omega)
    · show F_Mo_copies_2B p q (F_Mo_copies_2 p q f) (nI j) s = _
      unfold F_Mo_copies_2B
      rw [hp, hq, if_neg (show ¬ Int32.ofNat N ≤ nI j from nI_ge hj (by omega)), sn_gu (sn_in' hj (by omega)), sn_gu (sn_in' hj (by omega)), y_lt, nI_clamp (by omega), hs.2 p hne, nI_1]
theorem stR_c {n : Nat} {m c c' : Nat → Int32} (h : stR n m c) (e : ∀ j, j < 5 → c' j = c j) : stR n m c' := by
  unfold stR at h ⊢
  rw [e 0 (by omega), e 1 (by omega), e 2 (by omega), e 3 (by omega), e 4 (by omega)]
  exact h
theorem stR_m {n : Nat} {m m' c : Nat → Int32} (hn : n ≤ 14) (h : stR n m c) (e : ∀ j, j < 16 → m' j = m j) : stR n m' c := by
  unfold stR at h ⊢
  rw [e 14 (by omega), e 15 (by omega)]
  refine ⟨h.1, fun s hs => ?_, h.2.2⟩
  rw [e s (by omega)]
  exact h.2.1 s hs
/-- so many days ahead -/
def Dk (A : sA) (R : Nat → List Nat) (c : Nat → Int32) : Nat → Nat → Int32
  | 0 => c
  | k + 1 => dy A R (Dk A R c k)
/-- only the trial has changed -/
def cfr (t : Nat) (C I : sm_MI) : Prop := ∀ k, k ≠ 20 → k ≠ t + 18 → k ≠ t + 19 → I k = C k
def mfr (M I : sm_MI) : Prop := ∀ k, k ≠ 87 → k ≠ 89 → k ≠ 90 → I k = M k
theorem lo14_bo {w : Int32} {n : Nat} (hn : n ≤ 14) (h : w = -1 ∨ ∃ j, j < n ∧ w = nI j) : lo14 (bo w) := by
  rcases h with h | ⟨j, h1, h2⟩
  · rw [h, bo_m]; exact lo14_0
  · rw [h2, bo_n (by omega)]; exact lo14_b1 (by omega)
theorem lo14_fl {A : sA} {R : Nat → List Nat} {c : Nat → Int32} (hw : wA A) : lo14 (fl A R c) := by
  have hn := hw.1
  unfold fl
  split
  · exact lo14_0
  · exact lo14_or (lo14_bo hn ((wt_or hw).imp id (fun ⟨a, h1, h2, _⟩ => ⟨a, h1, h2⟩))) (lo14_bo hn ((wt_or hw).imp id (fun ⟨a, h1, h2, _⟩ => ⟨a, h1, h2⟩)))
theorem pc_eq0 {x : Int32} (h : lo14 x) : pc x = 0 ↔ x = 0 := by
  constructor
  · intro h0
    apply b_ext14 h lo14_0
    intro i hi
    rw [b_0]
    cases e : bt x i
    · rfl
    · have := cn_lt (p := fun _ => false) (q := bt x) (n := 14) (fun _ _ h => by cases h) ⟨i, hi, rfl, e⟩
      have h1 : cn (bt x) 14 = 0 := h0
      omega
  · intro h0; rw [h0]; exact pc_0
section QU
variable {A : sA} {R : Nat → List Nat} {t : Nat} {C M I : sm_MI}
theorem cfr.csm (h : cfr t C I) : csm t C I := fun k _ h2 h3 h4 => h k h2 h3 h4
theorem mfr.smM {M0 : sm_MI} (hs : smM M0 M) (h : mfr M I) : smM M0 I := by
  refine ⟨fun i h1 h2 => ?_, fun i h1 h2 h3 h4 h5 => ?_, fun i h1 => ?_⟩
  · rw [← hs.1 i h1 h2, h 61 (by omega) (by omega) (by omega)]
  · rw [← hs.2.1 i h1 h2 h3 h4 h5, h i (by omega) (by omega) (by omega)]
  · rw [← hs.2.2 i h1, h i (by omega) (by omega) (by omega)]
theorem cfr.ca (ht : t = 21 ∨ t = 41) (hc : cA A t C) (h : cfr t C I) : cA A t I := cA_same hc (fun k hk => h _ (by omega) (by omega) (by omega))
theorem cfr.rc (ht : t = 21 ∨ t = 41) (hR : rC R (t + 14) C) (h : cfr t C I) : rC R (t + 14) I := by
  unfold rC
  rw [h _ (by omega) (by omega) (by omega), h _ (by omega) (by omega) (by omega), h _ (by omega) (by omega) (by omega)]
  exact hR
theorem mfr.ma (hm : mA A M) (h : mfr M I) : mA A I := mA_of hm (by rw [h 61 (by omega) (by omega) (by omega)]) (by rw [h 61 (by omega) (by omega) (by omega)]) (by rw [h 61 (by omega) (by omega) (by omega)]) (fun k h1 h2 => h k (by omega) (by omega) (by omega))
theorem mfr.rm (hM : rM R M) (h : mfr M I) : rM R I := by
  unfold rM
  rw [h _ (by omega) (by omega) (by omega), h _ (by omega) (by omega) (by omega)]
  exact hM
theorem cday (hw : wA A) (hr : rW R) (ht : t = 21 ∨ t = 41) (hc : cA A t C) (hR : rC R (t + 14) C) {d : Nat → Int32} (h : cfr t C I) (hd : I 20 = d) : ∃ I', F_War_passDay t 20 I = some (fl A R d, I') ∧ I' 20 = dy A R d ∧ cfr t C I' := by
  obtain ⟨I', e1, e2, e3⟩ := c_passDay (q := 20) hw hr (h.ca ht hc) (h.rc ht hR) (by omega)
  rw [hd] at e1 e2
  exact ⟨I', e1, e2, fun k h1 h2 h3 => by rw [e3 k h2 h3 h1, h k h1 h2 h3]⟩
theorem chol (hw : wA A) (hr : rW R) (ht : t = 21 ∨ t = 41) (hc : cA A t C) (hR : rC R (t + 14) C) {d : Nat → Int32} {σ : Nat} (hσ : σ < 2) (h : cfr t C I) (hd : I 20 = d) : ∃ I', F_War_holdsFire t 20 (nI σ) I = some (if hf A R σ d then 1 else 0, I') ∧ I' 20 = d ∧ cfr t C I' := by
  obtain ⟨I', e1, e2⟩ := c_holds (q := 20) hw hr (h.ca ht hc) (h.rc ht hR) hσ (by omega) (by omega)
  rw [hd] at e1
  exact ⟨I', e1, by rw [e2 20 (by omega) (by omega), hd], fun k h1 h2 h3 => by rw [e2 k h2 h3, h k h1 h2 h3]⟩
theorem mday (hw : wA A) (hr : rW R) (hm : mA A M) (hM : rM R M) {d : Nat → Int32} (h : mfr M I) (hd : stR (A 0 0) (I 87) d) : ∃ I', F_Mo_dayGoes 87 I = some (nI (pc (fl A R d)), I') ∧ stR (A 0 0) (I' 87) (dy A R d) ∧ mfr M I' := by
  obtain ⟨I', e1, e2, e3⟩ := m_day (p := 87) hw hr (h.ma hm) (h.rm hM) hd (by omega) (by omega)
  exact ⟨I', e1, e2, fun k h1 h2 h3 => by rw [e3 k h2 h3 h1, h k h1 h2 h3]⟩
theorem mhol (hw : wA A) (hr : rW R) (hm : mA A M) (hM : rM R M) {d : Nat → Int32} {σ : Nat} (hσ : σ < 2) (h : mfr M I) (hd : stR (A 0 0) (I 87) d) : ∃ I', F_Mo_isHolding 87 (nI σ) I = some (if hf A R σ d then 1 else 0, I') ∧ stR (A 0 0) (I' 87) d ∧ mfr M I' := by
  obtain ⟨I', e1, e2⟩ := m_holds (p := 87) hw hr (h.ma hm) (h.rm hM) hd hσ (by omega) (by omega)
  exact ⟨I', e1, by rw [e2 87 (by omega) (by omega)]; exact hd, fun k h1 h2 h3 => by rw [e2 k h2 h3, h k h1 h2 h3]⟩
/-- the trial begins as all is now -/
theorem c_trial (h : Rel A R t C M) : ∃ I c, F_State_copyFrom 20 9 C = some I ∧ I 20 = c ∧ (∀ j, j < 5 → c j = C 9 j) ∧ cfr t C I ∧ stR (A 0 0) (M 86) c := by
  have key : ∀ j, j < 5 → sd_up (sd_up (sd_up (sd_up (sd_up C 20 0 (C 9 0)) 20 1 (C 9 1)) 20 2 (C 9 2)) 20 3 (C 9 3)) 20 4 (C 9 4) 20 j = C 9 j := by
    intro j hj
    rcases (show j = 0 ∨ j = 1 ∨ j = 2 ∨ j = 3 ∨ j = 4 by omega) with rfl | rfl | rfl | rfl | rfl <;> simp (disch := omega) only [↓g_in, ↓g_c0, ↓g_c1, ↓reduceIte, y_lt, y_q1, y_q2, sn_q3, sn_t1l, sn_t1r, sn_t2l, sn_t2r, nI_clamp, x_leT, x_leF, x_ltT, x_ltF, x_eqT, x_eqF, x_le0T, x_le0F, x_0leT, x_lt0F, x_0ltT, x_0ltF, x_eq0T, x_eq0F, x_le1T, x_le1F, x_1leT, x_1leF, x_1ltT, x_1ltF, x_lt1T, x_lt1F, x_eq1T, x_eq1F, x_m1F, nI_add, nI_1, sn_mul, x_sub, x_sub1, sn_m1, l2, l3, l4, l5, l6, l7, l8, l9, l10, l11, l12, l13, l14, l15, l20, l30, l40, l48, l60, l64, l99, l100, l700, l999, not_true_eq_false, not_false_eq_true, x_t0, x_t1, lts1, x_10, x_1sub, eq_self, Nat.reduceSub, Nat.reduceAdd, Nat.reduceMul, up_s, up_m]
  refine ⟨_, _, ?_, rfl, key, ?_, stR_c h.st key⟩
  · unfold F_State_copyFrom
    simp (disch := omega) only [↓g_in, ↓g_c0, ↓g_c1, ↓reduceIte, y_lt, y_q1, y_q2, sn_q3, sn_t1l, sn_t1r, sn_t2l, sn_t2r, nI_clamp, x_leT, x_leF, x_ltT, x_ltF, x_eqT, x_eqF, x_le0T, x_le0F, x_0leT, x_lt0F, x_0ltT, x_0ltF, x_eq0T, x_eq0F, x_le1T, x_le1F, x_1leT, x_1leF, x_1ltT, x_1ltF, x_lt1T, x_lt1F, x_eq1T, x_eq1F, x_m1F, nI_add, nI_1, sn_mul, x_sub, x_sub1, sn_m1, l2, l3, l4, l5, l6, l7, l8, l9, l10, l11, l12, l13, l14, l15, l20, l30, l40, l48, l60, l64, l99, l100, l700, l999, not_true_eq_false, not_false_eq_true, x_t0, x_t1, lts1, x_10, x_1sub, eq_self, Nat.reduceSub, Nat.reduceAdd, Nat.reduceMul, up_n]
  · intro k h1 h2 h3
    rw [up_n h1, up_n h1, up_n h1, up_n h1, up_n h1]
theorem m_trial (h : Rel A R t C M) {c : Nat → Int32} (hc : stR (A 0 0) (M 86) c) : ∃ I, F_Mo_copies 86 87 M = some I ∧ stR (A 0 0) (I 87) c ∧ mfr M I := by
  obtain ⟨I, e1, e2, e3⟩ := m_copies (p := 86) (q := 87) (I := M) sdn86 sdn87 (by omega) (by omega)
  exact ⟨I, e1, stR_m h.wa.1 hc e2, fun k h1 _ _ => e3 k h1⟩
def pef (A : sA) (R : Nat → List Nat) (c : Nat → Int32) (k : Nat) : Option Nat := if fl A R (Dk A R c k) = 0 then none else some k
theorem q_peace (h : Rel A R t C M) : ∃ v C', F_VM_peace t C = some (v, C') ∧ csm t C C' ∧ mq (F_Mo_peace M) M (.inl v) := by
  obtain ⟨M1, hM1, h0, h, hs⟩ := h.start
  have hw := h.wa
  have hr := h.rw
  have ht := h.tt
  obtain ⟨I1, c, e1, e2, -, e3, e4⟩ := c_trial h
  obtain ⟨J1, e5, e6, e7⟩ := m_trial h e4
  have cl := lp_fs (fun f j s => F_VM_peace_8 t f j s) (pef A R c) (fun k s => s 20 = Dk A R c k ∧ cfr t C s) (fun v b => b.1 = nI v ∧ cfr t C b.2) (fun b => b.1 = nI 99 ∧ cfr t C b.2) 99 ?_ ?_ 99 0 sd_fu I1 rfl (by rw [sd_fu_val]; omega) ⟨e2, e3⟩
  · have ml := lp_fs (fun f j s => F_Mo_peace_11 f j s) (pef A R c) (fun k s => stR (A 0 0) (s 87) (Dk A R c k) ∧ mfr M1 s) (fun v b => b.1 = nI v ∧ mfr M1 b.2) (fun b => b.1 = nI 99 ∧ mfr M1 b.2) 99 ?_ ?_ 99 0 sd_fu J1 rfl (by rw [sd_fu_val]; omega) ⟨e6, e7⟩
    · obtain ⟨⟨v1, C'⟩, k1, k2, k3⟩ := cl
      obtain ⟨⟨v2, M'⟩, k4, k5, k6⟩ := ml
      unfold F_VM_peace F_Mo_peace
      rw [hM1]
      have hv : v1 = v2 ∧ cfr t C C' ∧ mfr M1 M' := by
        cases ho : fx (pef A R c) 99 0 with
        | none =>
          have a := k3 ho
          have b := k6 ho
          exact ⟨a.1.trans b.1.symm, a.2, b.2⟩
        | some v =>
          have a := k2 v ho
          have b := k5 v ho
          exact ⟨a.1.trans b.1.symm, a.2, b.2⟩
      refine ⟨v1, C', by rw [e1, sn_q1]; exact k1, hv.2.1.csm, mq_v (M' := M') (by rw [y_lt, e5, sn_q1, hv.1]; exact k4) (by rw [hv.2.2 61 (by omega) (by omega) (by omega)]; exact h0) (hv.2.2.smM hs)⟩
    · intro f s hsx
      refine ⟨(nI 99, s), ?_, rfl, hsx.2⟩
      show F_Mo_peace_11B (F_Mo_peace_11 f) (nI 99) s = _
      unfold F_Mo_peace_11B
      rw [if_pos (show (99 : Int32) ≤ nI 99 from Int32.le_refl _)]
      rfl
    · intro f j s hj hsx
      obtain ⟨s', d1, d2, d3⟩ := mday hw hr h.ma h.rm hsx.2 hsx.1
      have hp := pc_le (fl A R (Dk A R c j))
      have hz := pc_eq0 (lo14_fl (A := A) (R := R) (c := Dk A R c j) hw)
      have hu : F_Mo_peace_11 (f + 1) (nI j) s = if fl A R (Dk A R c j) = 0 then F_Mo_peace_11 f (nI (j + 1)) s' else some (nI j, s') := by
        show F_Mo_peace_11B (F_Mo_peace_11 f) (nI j) s = _
        unfold F_Mo_peace_11B
        rw [if_neg (show ¬ (99 : Int32) ≤ nI j from nI_ge (b := 99) hj (by omega)), d1, sn_q2, nI_1]
        by_cases e : fl A R (Dk A R c j) = 0
        · rw [if_pos e, hz.mpr e, if_pos (show nI 0 ≤ 0 by decide)]
        · rw [if_neg e, if_neg (nI_nle (by have : ¬ pc (fl A R (Dk A R c j)) = 0 := fun q => e (hz.mp q); omega) (by omega))]
      unfold pef
      refine ⟨fun v hv => ?_, fun hn => ?_⟩
      · split at hv
        · cases hv
        · rename_i e
          cases hv
          exact ⟨(nI j, s'), by rw [hu, if_neg e], rfl, d3⟩
      · split at hn
        · rename_i e
          exact ⟨s', ⟨d2, d3⟩, by rw [hu, if_pos e]⟩
        · cases hn
  · intro f s hsx
    refine ⟨(nI 99, s), ?_, rfl, hsx.2⟩
    show F_VM_peace_8B t (F_VM_peace_8 t f) (nI 99) s = _
    unfold F_VM_peace_8B
    rw [if_pos (show (99 : Int32) ≤ nI 99 from Int32.le_refl _)]
    rfl
  · intro f j s hj hsx
    obtain ⟨s', d1, d2, d3⟩ := cday hw hr ht h.ca h.rc hsx.2 hsx.1
    have hu : F_VM_peace_8 t (f + 1) (nI j) s = if fl A R (Dk A R c j) = 0 then F_VM_peace_8 t f (nI (j + 1)) s' else some (nI j, s') := by
      show F_VM_peace_8B t (F_VM_peace_8 t f) (nI j) s = _
      unfold F_VM_peace_8B
      rw [if_neg (show ¬ (99 : Int32) ≤ nI j from nI_ge (b := 99) hj (by omega)), d1, sn_q2, nI_1]
    unfold pef
    refine ⟨fun v hv => ?_, fun hn => ?_⟩
    · split at hv
      · cases hv
      · rename_i e
        cases hv
        exact ⟨(nI j, s'), by rw [hu, if_neg e], rfl, d3⟩
    · split at hn
      · rename_i e
        exact ⟨s', ⟨d2, d3⟩, by rw [hu, if_pos e]⟩
      · cases hn
/-- a search over the days to come, the class's and the model's -/
theorem ahead (h : Rel A R t C M) {c : Nat → Int32} {I1 J1 : sm_MI} {δ γ : Type} (W : Int32 → δ) (g : Nat → Option γ) (V : γ → Int32) (K : Int32) (N : Nat) (hN : N < 90000) (LC : Nat → Int32 → sm_MI → Option (δ × sm_MI)) (LM : Nat → Int32 → sm_MI → Option (Int32 × sm_MI))
    (e2 : I1 20 = c) (e3 : cfr t C I1) (e6 : stR (A 0 0) (J1 87) c) (e7 : mfr M J1)
    (c0 : ∀ f s, s 20 = Dk A R c N → cfr t C s → LC (f + 1) (nI N) s = some (W K, s)) (m0 : ∀ f s, stR (A 0 0) (s 87) (Dk A R c N) → mfr M s → LM (f + 1) (nI N) s = some (K, s))
    (c1 : ∀ f j s, j < N → s 20 = Dk A R c j → cfr t C s → ∃ s', s' 20 = Dk A R c (j + 1) ∧ cfr t C s' ∧ LC (f + 1) (nI j) s = fxv (g j) (fun v => some (W (V v), s)) (LC f (nI (j + 1)) s'))
    (m1 : ∀ f j s, j < N → stR (A 0 0) (s 87) (Dk A R c j) → mfr M s → ∃ s', stR (A 0 0) (s' 87) (Dk A R c (j + 1)) ∧ mfr M s' ∧ LM (f + 1) (nI j) s = fxv (g j) (fun v => some (V v, s)) (LM f (nI (j + 1)) s')) :
    ∃ v C' M', LC sd_fu (nI 0) I1 = some (W v, C') ∧ cfr t C C' ∧ LM sd_fu (nI 0) J1 = some (v, M') ∧ mfr M M' := by
  have cl := lp_fs LC g (fun k s => s 20 = Dk A R c k ∧ cfr t C s) (fun v b => b.1 = W (V v) ∧ cfr t C b.2) (fun b => b.1 = W K ∧ cfr t C b.2) N (fun f s hsx => ⟨(W K, s), c0 f s hsx.1 hsx.2, rfl, hsx.2⟩) (fun f j s hj hsx => by
    obtain ⟨s', k1, k2, k3⟩ := c1 f j s hj hsx.1 hsx.2
    refine ⟨fun v hv => ?_, fun hn => ?_⟩
    · rw [hv] at k3
      exact ⟨_, k3, rfl, hsx.2⟩
    · rw [hn] at k3
      exact ⟨s', ⟨k1, k2⟩, k3⟩) N 0 sd_fu I1 (by omega) (by rw [sd_fu_val]; omega) ⟨e2, e3⟩
  have ml := lp_fs LM g (fun k s => stR (A 0 0) (s 87) (Dk A R c k) ∧ mfr M s) (fun v b => b.1 = V v ∧ mfr M b.2) (fun b => b.1 = K ∧ mfr M b.2) N (fun f s hsx => ⟨(K, s), m0 f s hsx.1 hsx.2, rfl, hsx.2⟩) (fun f j s hj hsx => by
    obtain ⟨s', k1, k2, k3⟩ := m1 f j s hj hsx.1 hsx.2
    refine ⟨fun v hv => ?_, fun hn => ?_⟩
    · rw [hv] at k3
      exact ⟨_, k3, rfl, hsx.2⟩
    · rw [hn] at k3
      exact ⟨s', ⟨k1, k2⟩, k3⟩) N 0 sd_fu J1 (by omega) (by rw [sd_fu_val]; omega) ⟨e6, e7⟩
  obtain ⟨⟨v1, C'⟩, k1, k2, k3⟩ := cl
  obtain ⟨⟨v2, M'⟩, k4, k5, k6⟩ := ml
  cases ho : fx g N 0 with
  | none =>
    obtain ⟨a1, a2⟩ := k3 ho
    obtain ⟨b1, b2⟩ := k6 ho
    exact ⟨K, C', M', by rw [k1]; exact congrArg (fun z => some (z, C')) a1, a2, by rw [k4]; exact congrArg (fun z => some (z, M')) b1, b2⟩
  | some v =>
    obtain ⟨a1, a2⟩ := k2 v ho
    obtain ⟨b1, b2⟩ := k5 v ho
    exact ⟨V v, C', M', by rw [k1]; exact congrArg (fun z => some (z, C')) a1, a2, by rw [k4]; exact congrArg (fun z => some (z, M')) b1, b2⟩
end QU
