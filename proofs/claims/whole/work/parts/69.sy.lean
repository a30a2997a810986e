/-! ===== the model's expressions, one token after another ===== -/
def fin0 (κ τ : Nat) : Prop := κ ≠ 12 ∧ κ ≠ 11 ∧ κ ≠ 1042 ∧ κ ≠ 1043 ∧ κ ≠ 1045 ∧ κ ≠ 1047 ∧ (τ = 0 → κ ≠ 1060 ∧ κ ≠ 1061)
abbrev rsx : Type := (Nat × Nat) ⊕ (Nat × List Nat)
/-- what comes of it: first an operand is asked for (some), or what follows one (none) -/
def SY (kq : Nat → Nat) (off nv : Nat) : Nat → Option (Bool × Nat) → Nat → List Nat → List Nat → List Nat → rsx → Prop
  | 0, _, _, _, _, _, _ => False
  | f + 1, some (b, m), k, out, W, T, r =>
    (b = true ∧ kq k = 13 ∧ m < 6 ∧ SY kq off nv f (some (true, m + 1)) (k + 1) out (3 :: W) T r) ∨
    (b = true ∧ kq k = 13 ∧ m = 6 ∧ r = .inl (2, k)) ∨
    (kq k = 1040 ∧ T.length < 6 ∧ SY kq off nv f (some (true, 0)) (k + 1) out (14 :: W) (0 :: T) r) ∨
    (kq k = 1040 ∧ 6 ≤ T.length ∧ r = .inl (if kq (k + 1) < 25 ∨ kq (k + 1) = 31 ∨ kq (k + 1) = 1040 ∨ 10000 ≤ kq (k + 1) then 2 else 1, k + 1)) ∨
    (10000 ≤ kq k ∧ SY kq off nv f none (k + 1) (out ++ [1, kq k - 10000]) W T r) ∨
    (kq k = 31 ∧ r = .inl (2, k)) ∨
    (14 + off ≤ kq k ∧ kq k < 14 + off + nv ∧ SY kq off nv f none (k + 1) (out ++ [2, kq k - 14]) W T r) ∨
    (kq k < 25 ∧ ¬ (14 + off ≤ kq k ∧ kq k < 14 + off + nv) ∧ (b = true → kq k ≠ 13) ∧ r = .inl (3, k)) ∨
    (25 ≤ kq k ∧ kq k ≠ 31 ∧ kq k ≠ 1040 ∧ kq k < 10000 ∧ r = .inl (1, k))
  | f + 1, none, k, out, W, T, r =>
    (∃ q c τ T', T = τ :: T' ∧ (kq k = 12 ∧ q = 2 ∧ c = 4 ∨ kq k = 11 ∧ q = 1 ∧ c = 5) ∧ SY kq off nv f (some (true, 0)) (k + 1) (nrm q out W).1 (c :: (nrm q out W).2) (0 :: T') r) ∨
    (∃ c T', T = 0 :: T' ∧ (kq k = 1060 ∧ c = 6 ∨ kq k = 1061 ∧ c = 7) ∧ SY kq off nv f (some (false, 0)) (k + 1) (nrm 4 out W).1 (c :: (nrm 4 out W).2) (1 :: T') r) ∨
    (∃ q c, (kq k = 1043 ∧ q = 5 ∧ c = 8 ∨ kq k = 1045 ∧ q = 5 ∧ c = 9 ∨ kq k = 1042 ∧ q = 6 ∧ c = 10 ∨ kq k = 1047 ∧ q = 6 ∧ c = 11) ∧ SY kq off nv f (some (false, 0)) (k + 1) (nrm q out W).1 (c :: (nrm q out W).2) T r) ∨
    (∃ τ T' o W', T = τ :: T' ∧ kq k = 1041 ∧ (nrm 0 out W).2 = o :: W' ∧ T' ≠ [] ∧ SY kq off nv f none (k + 1) (nrm 0 out W).1 W' T' r) ∨
    (∃ τ T', T = τ :: T' ∧ fin0 (kq k) τ ∧ (kq k = 1041 → ∀ c, c ∈ W → c < 14) ∧ T' ≠ [] ∧ r = .inl (1, k)) ∨
    (∃ τ, T = [τ] ∧ fin0 (kq k) τ ∧ (kq k = 1041 → ∀ c, c ∈ W → c < 14) ∧ r = .inr (k, (nrm 0 out W).1 ++ [0]))
section SX
variable {b : Nat → Nat} {n a0 off nv k : Nat} {out W T : List Nat} {M M' M2 : sm_MI} {J J' : sm_MJ}
theorem tok.lt (h : tok b n k M J) : kk b n k < 20000 := kk_lt (fun j hj => (h.1.2.2 j hj).1)
theorem tok.kw (h : tok b n k M J) : F_Mo_knownWord M J = some (mkw (kk b n k)) := h.2.2.2.2.2.2.2
theorem tok.so (h : tok b n k M J) : M 61 21 = nI (so (kk b n k)) := h.2.2.2.1
theorem tok.pl (h : tok b n k M J) : M 61 22 = nI (tp b n k) := h.2.2.1
theorem so_lt {q : Nat} : so q < 5 := by unfold so; repeat (first | omega | split)
theorem m_sign {x : Nat} (h : tok b n k M J) (h0 : 0 < x) (hx : x < 256) : F_Mo_isSign (nI x) M = some (if kk b n k = 1000 + x then 1 else 0) := by
  have hl := h.lt
  have hs := so_lt (q := kk b n k)
  unfold F_Mo_isSign
  rw [h.so]
  by_cases e : so (kk b n k) = 3
  · rw [if_neg (sn_nn (show nI (so (kk b n k)) = 3 by rw [e]; rfl)), h.2.2.2.2.2.2.1 e]
    by_cases g : kk b n k = 1000 + x
    · rw [if_pos g, g, Nat.add_sub_cancel_left, if_neg (sn_nn rfl)]
    · rw [if_neg g, if_pos (show ¬ nI (kk b n k - 1000) = nI x from fun z => by have := (nI_eq (by omega) (by omega)).mp z; omega)]
  · rw [if_pos (show ¬ nI (so (kk b n k)) = 3 from fun z => e ((nI_eq (b := 3) (by omega) (by omega)).mp z)), if_neg]
    intro z
    apply e
    rw [z]
    unfold so
    rw [if_neg (by omega), if_neg (by omega), if_neg (by omega), if_neg (by omega), if_pos (by omega)]
theorem m_good (h : M 61 16 = 0) : F_Mo_isGood M = some 1 := by unfold F_Mo_isGood; rw [h, if_neg (sn_nn rfl)]
theorem m_bad {e : Nat} (h : M 61 16 = nI e) (h0 : 0 < e) (he : e < 10) : F_Mo_isGood M = some 0 := by unfold F_Mo_isGood; rw [h, if_pos (show ¬ nI e = 0 from nI_ne0 h0 (by omega))]
theorem m_wrong {e : Nat} (h : M 61 16 = 0) (ht : M 61 22 = nI (tp b n k)) : F_Mo_wrong (nI e) M = some (sd_up (sd_up M 61 16 (nI e)) 61 17 (nI (tp b n k))) := by
  unfold F_Mo_wrong
  rw [if_pos h, y_lt, y_lt, up_m (show (22:Nat) ≠ 16 by omega), ht]
theorem xs_bad {e v : Int32} (h : xs a0 out W T M) : xs a0 out W T (sd_up (sd_up M 61 16 e) 61 17 v) := xs_of h (by rw [up_m (by omega), up_m (by omega)]) (by rw [up_m (by omega), up_m (by omega)]) (by rw [up_m (by omega), up_m (by omega)]) (by rw [up_n (by omega), up_n (by omega)]) (by rw [up_n (by omega), up_n (by omega)]) (by rw [up_n (by omega), up_n (by omega)])
/-- how the model ends an expression -/
def mres (b : Nat → Nat) (n a0 : Nat) (M : sm_MI) (J : sm_MJ) (r : rsx) (o : Option (sm_MI × sm_MJ)) : Prop := ∃ M' J', o = some (M', J') ∧ xsm a0 M M' ∧ jsm J J' ∧ (match r with
  | .inl (e, k) => M' 61 16 = nI e ∧ M' 61 17 = nI (tp b n k)
  | .inr (k, out) => tok b n k M' J' ∧ M' 61 16 = 0 ∧ M' 61 17 = -1 ∧ M' 61 30 = nI (a0 + out.length) ∧ ∀ i c, out[i]? = some c → M' 83 (a0 + i) = nI c)
theorem mres.from {o : Option (sm_MI × sm_MJ)} {r : rsx} (h : mres b n a0 M' J' r o) (g : xsm a0 M M') (j : jsm J J') : mres b n a0 M J r o := by
  obtain ⟨M2, J2, h1, h2, h3, h4⟩ := h
  exact ⟨M2, J2, h1, g.trans h2, j.trans h3, h4⟩
theorem m_178 (h : xs a0 out W T M) (hl : a0 + out.length + W.length < 2700) (hw : W.length < 950) : ∃ M', F_Mo_expression_178 M J = some (M', J) ∧ xs a0 ((nrm 0 out W).1 ++ [0]) (nrm 0 out W).2 T M' ∧ xsm a0 M M' ∧ ∀ j, j ≠ 30 → j ≠ 33 → M' 61 j = M 61 j := by
  obtain ⟨M1, d1, d2, d3, d4⟩ := m_drops (q := 0) (by omega) h (by omega) hw
  have hlen := nrm_len (q := 0) W out
  have p1 := m_puts (c := 0) d2 (by omega)
  refine ⟨_, ?_, xs_puts d2, d3.trans (xm_puts xsm.refl), fun j j1 j2 => by rw [up_m j1, up_n (by omega), d4 j j1 j2]⟩
  unfold F_Mo_expression_178
  rw [q1_of (show F_Mo_drops 0 M = some M1 from d1), q1_of (show F_Mo_puts 0 M1 = _ from p1)]
theorem m_tail {e κ f : Nat} (h : xs a0 out W T M) (hl : a0 + out.length + W.length < 2700) (hw : W.length < 950) (h16 : M 61 16 = nI e) (h0 : 0 < e) (he : e < 10) (h17 : M 61 17 = nI (tp b n κ)) (hf : 0 < f) : mres b n a0 M J (.inl (e, κ)) (F_Mo_expression_23 f 1 M J) := by
  obtain ⟨f, rfl⟩ : ∃ g, f = g + 1 := ⟨f - 1, by omega⟩
  obtain ⟨M', d1, d2, d3, d4⟩ := m_178 (J := J) h hl hw
  refine ⟨M', J, ?_, d3, jsm.refl, by rw [d4 16 (by omega) (by omega)]; exact h16, by rw [d4 17 (by omega) (by omega)]; exact h17⟩
  have hu : F_Mo_expression_23 (f + 1) 1 M J = F_Mo_expression_23B (F_Mo_expression_23 f) 1 M J := rfl
  rw [hu]
  unfold F_Mo_expression_23B F_Mo_expression_168
  rw [if_neg (by decide), q1_of (m_bad h16 h0 he), if_pos rfl, q1_of (m_bad h16 h0 he), if_pos rfl]
  exact d1
theorem m_tailW {e f : Nat} (ht : tok b n k M J) (h16 : M 61 16 = 0) (h : xs a0 out W T M) (hl : a0 + out.length + W.length < 2700) (hw : W.length < 950) (h0 : 0 < e) (he : e < 10) (hf : 0 < f) :
    mres b n a0 M J (.inl (e, k)) (F_Mo_expression_23 f 1 (sd_up (sd_up M 61 16 (nI e)) 61 17 (nI (tp b n k))) J) :=
  (m_tail (xs_bad h) hl hw (by rw [up_m (by omega)]; exact up_s) h0 he up_s hf).from ((xsm.refl.up (by omega)).up (by omega)) jsm.refl
theorem m_part0 {e : Nat} (h16 : M 61 16 = nI e) (h0 : 0 < e) (he : e < 10) : F_Mo_part M J = some (M, J) := by
  unfold F_Mo_part
  rw [q1_of (m_bad h16 h0 he), if_neg (sn_nn rfl)]
theorem m_op0 {e f : Nat} {x y : Int32} (h16 : M 61 16 = nI e) (h0 : 0 < e) (he : e < 10) (hf : 0 < f) : F_Mo_operand_4 f x y M J = some (M, J) := by
  obtain ⟨f, rfl⟩ : ∃ g, f = g + 1 := ⟨f - 1, by omega⟩
  have hu : F_Mo_operand_4 (f + 1) x y M J = F_Mo_operand_4B (F_Mo_operand_4 f) x y M J := rfl
  rw [hu]
  unfold F_Mo_operand_4B F_Mo_operand_60
  rw [q2_of (m_part0 h16 h0 he), q1_of (m_bad h16 h0 he), if_pos rfl, ite_self]
theorem m_op4 {f : Nat} {x : Int32} (h16 : M 61 16 = 0) (hf : 0 < f) : F_Mo_operand_4 f x 1 M J = F_Mo_operand_11 (F_Mo_operand_4 (f - 1)) sd_fu x 0 M J := by
  obtain ⟨f, rfl⟩ : ∃ g, f = g + 1 := ⟨f - 1, by omega⟩
  have hu : F_Mo_operand_4 (f + 1) x 1 M J = F_Mo_operand_4B (F_Mo_operand_4 f) x 1 M J := rfl
  rw [hu]
  unfold F_Mo_operand_4B
  rw [if_neg (by decide), q1_of (m_good h16), if_neg (by decide), Nat.add_sub_cancel]
theorem m_openedL : ∀ W M f, stw 84 0 M W → (∀ c, c ∈ W → 3 ≤ c ∧ c < 15) → W.length < 950 → W.length < f → F_Mo_isOpened_5 M f (nI W.length + -1) = some (if ∃ c, c ∈ W ∧ 14 ≤ c then 1 else 0)
  | [], M, f, h, hc, hl, hf => by
    obtain ⟨f, rfl⟩ : ∃ g, f = g + 1 := ⟨f - 1, by omega⟩
    have hu : ∀ a, F_Mo_isOpened_5 M (f + 1) a = F_Mo_isOpened_5B (F_Mo_isOpened_5 M f) a M := fun _ => rfl
    rw [hu, if_neg (by rintro ⟨c, h1, h2⟩; cases h1)]
    unfold F_Mo_isOpened_5B F_Mo_isOpened_15
    rw [if_pos (by decide), if_pos (by decide)]
  | c :: W, M, f, h, hc, hl, hf => by
    have hl : W.length + 1 < 950 := hl
    have hf : W.length + 1 < f := hf
    obtain ⟨f, rfl⟩ : ∃ g, f = g + 1 := ⟨f - 1, by omega⟩
    have hu : ∀ a, F_Mo_isOpened_5 M (f + 1) a = F_Mo_isOpened_5B (F_Mo_isOpened_5 M f) a M := fun _ => rfl
    have h84 : M 84 W.length = nI c := h.1
    have hcc := hc c (List.mem_cons_self ..)
    have op := m_open hcc.2
    rw [hu, show (c :: W).length = W.length + 1 from rfl, sn_m1 (by omega), Nat.add_sub_cancel]
    unfold F_Mo_isOpened_5B F_Mo_isOpened_15
    by_cases e : 14 ≤ c
    · rw [if_pos e] at op
      rw [if_pos (show ∃ d, d ∈ c :: W ∧ 14 ≤ d from ⟨c, List.mem_cons_self .., e⟩)]
      simp (disch := omega) only [↓g_in, ↓g_c0, ↓g_c1, ↓reduceIte, ↓y_lt, ↓y_q1, ↓y_q2, ↓sn_q3, ↓sn_t1l, ↓sn_t1r, ↓sn_t2l, ↓sn_t2r, y_q1, y_q2, sn_q3, sn_t1l, sn_t1r, sn_t2l, sn_t2r, nI_clamp, x_leT, x_leF, x_ltT, x_ltF, x_eqT, x_eqF, x_le0T, x_le0F, x_0leT, x_lt0F, x_0ltT, x_0ltF, x_eq0T, x_eq0F, x_le1T, x_le1F, x_1leT, x_1leF, x_1ltT, x_1ltF, x_lt1T, x_lt1F, x_eq1T, x_eq1F, x_m1F, nI_add, nI_1, sn_mul, x_sub, x_sub1, sn_m1, l2, l3, l4, l5, l6, l7, l8, l9, l10, l11, l12, l13, l14, l15, l20, l30, l40, l48, l60, l64, l99, l100, l700, l999, not_true_eq_false, not_false_eq_true, x_t0, x_t1, lts1, x_10, x_1sub, eq_self, Nat.reduceSub, Nat.reduceAdd, Nat.reduceMul, h84, ↓q1_of op]
    · rw [if_neg e] at op
      have ih := m_openedL W M f h.2 (fun d hd => hc d (List.mem_cons_of_mem _ hd)) (by omega) (by omega)
      have hiff : (∃ d, d ∈ c :: W ∧ 14 ≤ d) ↔ ∃ d, d ∈ W ∧ 14 ≤ d := by
        constructor
        · rintro ⟨d, h1, h2⟩
          rcases List.mem_cons.mp h1 with z | z
          · omega
          · exact ⟨d, z, h2⟩
        · rintro ⟨d, h1, h2⟩
          exact ⟨d, List.mem_cons_of_mem _ h1, h2⟩
      rw [if_neg (show ¬ nI W.length < 0 from nI_pos (by omega)), sn_gu (sn_in' (by omega) (by omega)), nI_clamp (by omega), h84, q1_of op, if_neg (sn_nn rfl), ih]
      simp only [hiff]
theorem m_opened (h : xs a0 out W T M) (hl : W.length < 950) : F_Mo_isOpened M = some (if ∃ c, c ∈ W ∧ 14 ≤ c then 1 else 0) := by
  unfold F_Mo_isOpened
  rw [y_lt, h.2.1.1, show nI W.length - 1 = nI W.length + -1 from Int32.sub_eq_add_neg ..]
  exact m_openedL W M sd_fu h.2.1.2 h.2.2.2.1 hl (by rw [sd_fu_val]; omega)
end SX
