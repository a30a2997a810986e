/-! ===== the model's expressions: what it has put, what waits, how deep it stands ===== -/
def stg (c : Nat) : Nat := if c = 5 then 1 else if c = 4 then 2 else if c = 3 then 3 else if c = 6 ∨ c = 7 then 4 else if c = 8 ∨ c = 9 then 5 else 6
def nrm (q : Nat) : List Nat → List Nat → List Nat × List Nat
  | out, [] => (out, [])
  | out, c :: W => if 14 ≤ c ∨ stg c < q then (out, c :: W) else nrm q (out ++ [c]) W
def stw (k o : Nat) (M : sm_MI) : List Nat → Prop
  | [] => True
  | x :: r => M k (r.length + o) = nI x ∧ stw k o M r
def xs (a0 : Nat) (out W T : List Nat) (M : sm_MI) : Prop := (M 61 30 = nI (a0 + out.length) ∧ ∀ i c, out[i]? = some c → M 83 (a0 + i) = nI c) ∧ (M 61 33 = nI W.length ∧ stw 84 0 M W) ∧ (M 61 34 = nI T.length ∧ stw 85 1 M T) ∧ (∀ c, c ∈ W → 3 ≤ c ∧ c < 15) ∧ ∀ c, c ∈ T → c ≤ 1
def xsm (a0 : Nat) (M M' : sm_MI) : Prop := (∀ k, k ≠ 61 → k ≠ 83 → k ≠ 84 → k ≠ 85 → M' k = M k) ∧ (∀ j, (j < 16 ∨ j = 18 ∨ j = 19 ∨ (25 < j ∧ j < 30) ∨ j = 31 ∨ j = 32 ∨ 34 < j) → M' 61 j = M 61 j) ∧ ∀ i, i < a0 → M' 83 i = M 83 i
section XS
variable {b : Nat → Nat} {n a0 : Nat} {out W T : List Nat} {M M' M2 : sm_MI} {J J' : sm_MJ}
theorem xsm.refl : xsm a0 M M := ⟨fun _ _ _ _ _ => rfl, fun _ _ => rfl, fun _ _ => rfl⟩
theorem xsm.trans (h : xsm a0 M M') (g : xsm a0 M' M2) : xsm a0 M M2 := ⟨fun k h1 h2 h3 h4 => by rw [g.1 k h1 h2 h3 h4, h.1 k h1 h2 h3 h4], fun j hj => by rw [g.2.1 j hj, h.2.1 j hj], fun i hi => by rw [g.2.2 i hi, h.2.2 i hi]⟩
theorem ksm.xs (h : ksm M M') : xsm a0 M M' := ⟨fun k h1 h2 h3 h4 => h.1 k h1, fun j hj => h.2 j (by omega), fun i hi => by rw [h.1 83 (by omega)]⟩
theorem xsm.up {j : Nat} {x : Int32} (h : xsm a0 M M') (hj : j = 16 ∨ j = 17 ∨ (20 ≤ j ∧ j ≤ 25) ∨ j = 30 ∨ j = 33 ∨ j = 34) : xsm a0 M (sd_up M' 61 j x) :=
  h.trans ⟨fun k h1 h2 h3 h4 => up_n h1, fun i hi => up_m (by omega), fun i hi => by rw [up_n (by omega)]⟩
theorem xsm.upk {k j : Nat} {x : Int32} (h : xsm a0 M M') (hj : k = 84 ∨ k = 85) : xsm a0 M (sd_up M' k j x) :=
  h.trans ⟨fun k h1 h2 h3 h4 => up_n (by omega), fun i hi => by rw [up_n (by omega)], fun i hi => by rw [up_n (by omega)]⟩
theorem xsm.upc {j : Nat} {x : Int32} (h : xsm a0 M M') (hj : a0 ≤ j) : xsm a0 M (sd_up M' 83 j x) :=
  h.trans ⟨fun k h1 h2 h3 h4 => up_n (by omega), fun i hi => by rw [up_n (by omega)], fun i hi => up_m (by omega)⟩
theorem stw_of {k o : Nat} (e : ∀ i, i < W.length + o → M' k i = M k i) (h : stw k o M W) : stw k o M' W := by
  induction W with
  | nil => trivial
  | cons x r ih =>
    have e : ∀ i, i < r.length + 1 + o → M' k i = M k i := e
    exact ⟨by rw [e _ (by omega)]; exact h.1, ih (fun i hi => e i (by omega)) h.2⟩
theorem tok_of {k : Nat} (h : tok b n k M J) (e : ∀ j, 19 ≤ j → j ≤ 25 → M' 61 j = M 61 j) (e2 : M' 72 = M 72) : tok b n k M' J := by
  have ek : F_Mo_knownWord M' J = F_Mo_knownWord M J := by
    unfold F_Mo_knownWord
    rw [e 21 (by omega) (by omega), e 23 (by omega) (by omega)]
    rfl
  unfold tok mtb at h ⊢
  rw [ek, e 19 (by omega) (by omega), e 20 (by omega) (by omega), e 21 (by omega) (by omega), e 22 (by omega) (by omega), e 23 (by omega) (by omega), e 24 (by omega) (by omega), e 25 (by omega) (by omega), e2]
  exact h
theorem xs_of (h : xs a0 out W T M) (e30 : M' 61 30 = M 61 30) (e33 : M' 61 33 = M 61 33) (e34 : M' 61 34 = M 61 34) (e83 : M' 83 = M 83) (e84 : M' 84 = M 84) (e85 : M' 85 = M 85) : xs a0 out W T M' := by
  obtain ⟨⟨h1, h2⟩, ⟨h3, h4⟩, ⟨h5, h6⟩, h7⟩ := h
  exact ⟨⟨by rw [e30]; exact h1, by rw [e83]; exact h2⟩, ⟨by rw [e33]; exact h3, stw_of (fun i _ => by rw [e84]) h4⟩, ⟨by rw [e34]; exact h5, stw_of (fun i _ => by rw [e85]) h6⟩, h7⟩
theorem xs_go (h : xs a0 out W T M) (g : ksm M M') : xs a0 out W T M' := xs_of h (g.2 30 (by omega)) (g.2 33 (by omega)) (g.2 34 (by omega)) (g.1 83 (by omega)) (g.1 84 (by omega)) (g.1 85 (by omega))
theorem tok_up {k i j : Nat} {x : Int32} (h : tok b n k M J) (hi : i ≠ 72) (hj : i = 61 → j < 19 ∨ 25 < j) : tok b n k (sd_up M i j x) J := by
  refine tok_of h (fun l h1 h2 => ?_) (up_n (by omega))
  by_cases e : i = 61
  · subst e
    have := hj rfl
    exact up_m (by omega)
  · rw [up_e e]
theorem m_puts {c : Nat} (h : xs a0 out W T M) (hl : a0 + out.length < 2800) : F_Mo_puts (nI c) M = some (sd_up (sd_up M 83 (a0 + out.length) (nI c)) 61 30 (nI (a0 + out.length + 1))) := by
  unfold F_Mo_puts
  simp (disch := omega) only [↓g_in, ↓g_c0, ↓g_c1, ↓reduceIte, ↓y_lt, ↓y_q1, ↓y_q2, ↓sn_q3, ↓sn_t1l, ↓sn_t1r, ↓sn_t2l, ↓sn_t2r, y_q1, y_q2, sn_q3, sn_t1l, sn_t1r, sn_t2l, sn_t2r, nI_clamp, x_leT, x_leF, x_ltT, x_ltF, x_eqT, x_eqF, x_le0T, x_le0F, x_0leT, x_lt0F, x_0ltT, x_0ltF, x_eq0T, x_eq0F, x_le1T, x_le1F, x_1leT, x_1leF, x_1ltT, x_1ltF, x_lt1T, x_lt1F, x_eq1T, x_eq1F, x_m1F, nI_add, nI_1, sn_mul, x_sub, x_sub1, sn_m1, l2, l3, l4, l5, l6, l7, l8, l9, l10, l11, l12, l13, l14, l15, l20, l30, l40, l48, l60, l64, l99, l100, l700, l999, not_true_eq_false, not_false_eq_true, x_t0, x_t1, lts1, x_10, x_1sub, eq_self, Nat.reduceSub, Nat.reduceAdd, Nat.reduceMul, h.1.1, up_n]
theorem xs_puts {c : Nat} (h : xs a0 out W T M) : xs a0 (out ++ [c]) W T (sd_up (sd_up M 83 (a0 + out.length) (nI c)) 61 30 (nI (a0 + out.length + 1))) := by
  obtain ⟨⟨h1, h2⟩, ⟨h3, h4⟩, ⟨h5, h6⟩, h7⟩ := h
  refine ⟨⟨?_, fun i d hd => ?_⟩, ⟨?_, stw_of (fun i _ => by rw [up_n (by omega), up_n (by omega)]) h4⟩, ⟨?_, stw_of (fun i _ => by rw [up_n (by omega), up_n (by omega)]) h6⟩, h7⟩
  · rw [up_s, List.length_append]; rfl
  · rw [up_n (by omega)]
    by_cases e : i = out.length
    · subst e
      rw [List.getElem?_append_right (Nat.le_refl _), Nat.sub_self] at hd
      have hd : some c = some d := hd
      cases hd
      exact up_s
    · rw [up_m (by omega)]
      refine h2 i d ?_
      have hi : i < (out ++ [c]).length := by
        rcases Nat.lt_or_ge i (out ++ [c]).length with z | z
        · exact z
        · rw [List.getElem?_eq_none z] at hd; cases hd
      rw [List.length_append] at hi
      have hi : i < out.length + 1 := hi
      rw [List.getElem?_append_left (by omega)] at hd
      exact hd
  · rw [up_m (by omega), up_n (by omega)]; exact h3
  · rw [up_m (by omega), up_n (by omega)]; exact h5
theorem xm_puts {c : Nat} (h : xsm a0 M2 M) : xsm a0 M2 (sd_up (sd_up M 83 (a0 + out.length) (nI c)) 61 30 (nI (a0 + out.length + 1))) := (h.upc (by omega)).up (by omega)
theorem m_waits {c : Nat} (h : xs a0 out W T M) (hl : W.length < 950) : F_Mo_waitsFor (nI c) M = some (sd_up (sd_up M 84 W.length (nI c)) 61 33 (nI (W.length + 1))) := by
  unfold F_Mo_waitsFor
  simp (disch := omega) only [↓g_in, ↓g_c0, ↓g_c1, ↓reduceIte, ↓y_lt, ↓y_q1, ↓y_q2, ↓sn_q3, ↓sn_t1l, ↓sn_t1r, ↓sn_t2l, ↓sn_t2r, y_q1, y_q2, sn_q3, sn_t1l, sn_t1r, sn_t2l, sn_t2r, nI_clamp, x_leT, x_leF, x_ltT, x_ltF, x_eqT, x_eqF, x_le0T, x_le0F, x_0leT, x_lt0F, x_0ltT, x_0ltF, x_eq0T, x_eq0F, x_le1T, x_le1F, x_1leT, x_1leF, x_1ltT, x_1ltF, x_lt1T, x_lt1F, x_eq1T, x_eq1F, x_m1F, nI_add, nI_1, sn_mul, x_sub, x_sub1, sn_m1, l2, l3, l4, l5, l6, l7, l8, l9, l10, l11, l12, l13, l14, l15, l20, l30, l40, l48, l60, l64, l99, l100, l700, l999, not_true_eq_false, not_false_eq_true, x_t0, x_t1, lts1, x_10, x_1sub, eq_self, Nat.reduceSub, Nat.reduceAdd, Nat.reduceMul, h.2.1.1, up_n]
theorem xs_waits {c : Nat} (h : xs a0 out W T M) (hc : 3 ≤ c ∧ c < 15) : xs a0 out (c :: W) T (sd_up (sd_up M 84 W.length (nI c)) 61 33 (nI (W.length + 1))) := by
  obtain ⟨⟨h1, h2⟩, ⟨h3, h4⟩, ⟨h5, h6⟩, h7, h8⟩ := h
  refine ⟨⟨?_, ?_⟩, ⟨up_s, ?_, stw_of (fun i hi => ?_) h4⟩, ⟨?_, stw_of (fun i _ => by rw [up_n (by omega), up_n (by omega)]) h6⟩, fun d hd => ?_, h8⟩
  · rw [up_m (by omega), up_n (by omega)]; exact h1
  · rw [up_n (by omega), up_n (by omega)]; exact h2
  · rw [up_n (by omega)]; exact up_s
  · rw [up_n (by omega), up_m (by omega)]
  · rw [up_m (by omega), up_n (by omega)]; exact h5
  · rcases List.mem_cons.mp hd with e | e
    · rw [e]; exact hc
    · exact h7 d e
theorem m_open {c : Nat} (hc : c < 15) : F_Mo_isOpen (nI c) = some (if 14 ≤ c then 1 else 0) := by
  unfold F_Mo_isOpen
  by_cases e : c < 14
  · rw [if_neg (show ¬ 14 ≤ c by omega)]
    simp (disch := omega) only [↓g_in, ↓g_c0, ↓g_c1, ↓reduceIte, ↓y_lt, ↓y_q1, ↓y_q2, ↓sn_q3, ↓sn_t1l, ↓sn_t1r, ↓sn_t2l, ↓sn_t2r, y_q1, y_q2, sn_q3, sn_t1l, sn_t1r, sn_t2l, sn_t2r, nI_clamp, x_leT, x_leF, x_ltT, x_ltF, x_eqT, x_eqF, x_le0T, x_le0F, x_0leT, x_lt0F, x_0ltT, x_0ltF, x_eq0T, x_eq0F, x_le1T, x_le1F, x_1leT, x_1leF, x_1ltT, x_1ltF, x_lt1T, x_lt1F, x_eq1T, x_eq1F, x_m1F, nI_add, nI_1, sn_mul, x_sub, x_sub1, sn_m1, l2, l3, l4, l5, l6, l7, l8, l9, l10, l11, l12, l13, l14, l15, l20, l30, l40, l48, l60, l64, l99, l100, l700, l999, not_true_eq_false, not_false_eq_true, x_t0, x_t1, lts1, x_10, x_1sub, eq_self, Nat.reduceSub, Nat.reduceAdd, Nat.reduceMul]
  · rw [if_pos (show 14 ≤ c by omega)]
    simp (disch := omega) only [↓g_in, ↓g_c0, ↓g_c1, ↓reduceIte, ↓y_lt, ↓y_q1, ↓y_q2, ↓sn_q3, ↓sn_t1l, ↓sn_t1r, ↓sn_t2l, ↓sn_t2r, y_q1, y_q2, sn_q3, sn_t1l, sn_t1r, sn_t2l, sn_t2r, nI_clamp, x_leT, x_leF, x_ltT, x_ltF, x_eqT, x_eqF, x_le0T, x_le0F, x_0leT, x_lt0F, x_0ltT, x_0ltF, x_eq0T, x_eq0F, x_le1T, x_le1F, x_1leT, x_1leF, x_1ltT, x_1ltF, x_lt1T, x_lt1F, x_eq1T, x_eq1F, x_m1F, nI_add, nI_1, sn_mul, x_sub, x_sub1, sn_m1, l2, l3, l4, l5, l6, l7, l8, l9, l10, l11, l12, l13, l14, l15, l20, l30, l40, l48, l60, l64, l99, l100, l700, l999, not_true_eq_false, not_false_eq_true, x_t0, x_t1, lts1, x_10, x_1sub, eq_self, Nat.reduceSub, Nat.reduceAdd, Nat.reduceMul]
theorem m_strength : ∀ c, c < 15 → F_Mo_strength (nI c) = some (nI (stg c)) := by decide +kernel
theorem nrm_len {q : Nat} : ∀ W out, (nrm q out W).1.length + (nrm q out W).2.length = out.length + W.length
  | [], out => rfl
  | c :: W, out => by
    unfold nrm
    split
    · rfl
    · have := nrm_len (q := q) W (out ++ [c])
      rw [List.length_append] at this
      show _ = out.length + (W.length + 1)
      have e : [c].length = 1 := rfl
      omega
theorem m_dropsL {q : Nat} (hq : q < 10) : ∀ W out M f, xs a0 out W T M → W.length < f → a0 + out.length + W.length < 2800 → W.length < 950 → ∃ M', F_Mo_drops_0 f (nI q) M = some M' ∧ xs a0 (nrm q out W).1 (nrm q out W).2 T M' ∧ xsm a0 M M' ∧ (∀ j, j ≠ 30 → j ≠ 33 → M' 61 j = M 61 j)
  | [], out, M, f, h, hf, hl, hw => by
    obtain ⟨f, rfl⟩ : ∃ g, f = g + 1 := ⟨f - 1, by omega⟩
    refine ⟨M, ?_, h, xsm.refl, fun _ _ _ => rfl⟩
    have hu : F_Mo_drops_0 (f + 1) (nI q) M = F_Mo_drops_0B (F_Mo_drops_0 f) (nI q) M := rfl
    rw [hu]
    unfold F_Mo_drops_0B
    rw [h.2.1.1]
    rfl
  | c :: W, out, M, f, h, hf, hl, hw => by
    have hf : W.length + 1 < f := hf
    have hl : a0 + out.length + (W.length + 1) < 2800 := hl
    have hw : W.length + 1 < 950 := hw
    obtain ⟨f, rfl⟩ : ∃ g, f = g + 1 := ⟨f - 1, by omega⟩
    have hu : F_Mo_drops_0 (f + 1) (nI q) M = F_Mo_drops_0B (F_Mo_drops_0 f) (nI q) M := rfl
    rw [hu]
    have h33 : M 61 33 = nI (W.length + 1) := h.2.1.1
    have h84 : M 84 W.length = nI c := h.2.1.2.1
    have hc := h.2.2.2.1 c (List.mem_cons_self ..)
    unfold F_Mo_drops_0B nrm
    have op := m_open hc.2
    by_cases e : 14 ≤ c
    · rw [if_pos e] at op
      refine ⟨M, ?_, by rw [if_pos (Or.inl e)]; exact h, xsm.refl, fun _ _ _ => rfl⟩
      simp (disch := omega) only [↓g_in, ↓g_c0, ↓g_c1, ↓reduceIte, ↓y_lt, ↓y_q1, ↓y_q2, ↓sn_q3, ↓sn_t1l, ↓sn_t1r, ↓sn_t2l, ↓sn_t2r, y_q1, y_q2, sn_q3, sn_t1l, sn_t1r, sn_t2l, sn_t2r, nI_clamp, x_leT, x_leF, x_ltT, x_ltF, x_eqT, x_eqF, x_le0T, x_le0F, x_0leT, x_lt0F, x_0ltT, x_0ltF, x_eq0T, x_eq0F, x_le1T, x_le1F, x_1leT, x_1leF, x_1ltT, x_1ltF, x_lt1T, x_lt1F, x_eq1T, x_eq1F, x_m1F, nI_add, nI_1, sn_mul, x_sub, x_sub1, sn_m1, l2, l3, l4, l5, l6, l7, l8, l9, l10, l11, l12, l13, l14, l15, l20, l30, l40, l48, l60, l64, l99, l100, l700, l999, not_true_eq_false, not_false_eq_true, x_t0, x_t1, lts1, x_10, x_1sub, eq_self, Nat.reduceSub, Nat.reduceAdd, Nat.reduceMul, h33, h84, ↓q1_of op, Nat.add_sub_cancel]
    · rw [if_neg e] at op
      by_cases g : stg c < q
      · refine ⟨M, ?_, by rw [if_pos (Or.inr g)]; exact h, xsm.refl, fun _ _ _ => rfl⟩
        simp (disch := omega) only [↓g_in, ↓g_c0, ↓g_c1, ↓reduceIte, ↓y_lt, ↓y_q1, ↓y_q2, ↓sn_q3, ↓sn_t1l, ↓sn_t1r, ↓sn_t2l, ↓sn_t2r, y_q1, y_q2, sn_q3, sn_t1l, sn_t1r, sn_t2l, sn_t2r, nI_clamp, x_leT, x_leF, x_ltT, x_ltF, x_eqT, x_eqF, x_le0T, x_le0F, x_0leT, x_lt0F, x_0ltT, x_0ltF, x_eq0T, x_eq0F, x_le1T, x_le1F, x_1leT, x_1leF, x_1ltT, x_1ltF, x_lt1T, x_lt1F, x_eq1T, x_eq1F, x_m1F, nI_add, nI_1, sn_mul, x_sub, x_sub1, sn_m1, l2, l3, l4, l5, l6, l7, l8, l9, l10, l11, l12, l13, l14, l15, l20, l30, l40, l48, l60, l64, l99, l100, l700, l999, not_true_eq_false, not_false_eq_true, x_t0, x_t1, lts1, x_10, x_1sub, eq_self, Nat.reduceSub, Nat.reduceAdd, Nat.reduceMul, h33, h84, ↓q1_of op, Nat.add_sub_cancel, ↓q1_of (m_strength c hc.2)]
      · rw [if_neg (show ¬ (14 ≤ c ∨ stg c < q) by omega)]
        have hs : stg c < 10 := by unfold stg; repeat (first | omega | split)
        have h1 : xs a0 out W T (sd_up M 61 33 (nI W.length)) := by
          obtain ⟨⟨h1, h2⟩, ⟨h3, h4⟩, ⟨h5, h6⟩, h7, h8⟩ := h
          exact ⟨⟨by rw [up_m (by omega)]; exact h1, by rw [up_n (by omega)]; exact h2⟩, ⟨up_s, stw_of (fun i _ => by rw [up_n (by omega)]) h4.2⟩, ⟨by rw [up_m (by omega)]; exact h5, stw_of (fun i _ => by rw [up_n (by omega)]) h6⟩, fun d hd => h7 d (List.mem_cons_of_mem _ hd), h8⟩
        have p1 := m_puts (c := c) h1 (by omega)
        have p2 := xs_puts (c := c) h1
        obtain ⟨M', i1, i2, i3, i4⟩ := m_dropsL hq W (out ++ [c]) _ f p2 (by omega) (by rw [List.length_append]; have e : [c].length = 1 := rfl; omega) (by omega)
        refine ⟨M', ?_, i2, (xm_puts (xsm.refl.up (by omega))).trans i3, fun j j1 j2 => by rw [i4 j j1 j2, up_m j1, up_n (by omega), up_m j2]⟩
        have h84' : sd_up M 61 33 (nI W.length) 84 W.length = nI c := by rw [up_n (by omega)]; exact h84
        simp (disch := omega) only [↓g_in, ↓g_c0, ↓g_c1, ↓reduceIte, ↓y_lt, ↓y_q1, ↓y_q2, ↓sn_q3, ↓sn_t1l, ↓sn_t1r, ↓sn_t2l, ↓sn_t2r, y_q1, y_q2, sn_q3, sn_t1l, sn_t1r, sn_t2l, sn_t2r, nI_clamp, x_leT, x_leF, x_ltT, x_ltF, x_eqT, x_eqF, x_le0T, x_le0F, x_0leT, x_lt0F, x_0ltT, x_0ltF, x_eq0T, x_eq0F, x_le1T, x_le1F, x_1leT, x_1leF, x_1ltT, x_1ltF, x_lt1T, x_lt1F, x_eq1T, x_eq1F, x_m1F, nI_add, nI_1, sn_mul, x_sub, x_sub1, sn_m1, l2, l3, l4, l5, l6, l7, l8, l9, l10, l11, l12, l13, l14, l15, l20, l30, l40, l48, l60, l64, l99, l100, l700, l999, not_true_eq_false, not_false_eq_true, x_t0, x_t1, lts1, x_10, x_1sub, eq_self, Nat.reduceSub, Nat.reduceAdd, Nat.reduceMul, h33, h84, ↓q1_of op, Nat.add_sub_cancel, ↓q1_of (m_strength c hc.2), up_s, h84', ↓q1_of p1]
        exact i1
theorem m_drops {q : Nat} (hq : q < 10) (h : xs a0 out W T M) (hl : a0 + out.length + W.length < 2800) (hw : W.length < 950) : ∃ M', F_Mo_drops (nI q) M = some M' ∧ xs a0 (nrm q out W).1 (nrm q out W).2 T M' ∧ xsm a0 M M' ∧ (∀ j, j ≠ 30 → j ≠ 33 → M' 61 j = M 61 j) :=
  m_dropsL hq W out M sd_fu h (by rw [sd_fu_val]; omega) hl hw
end XS
