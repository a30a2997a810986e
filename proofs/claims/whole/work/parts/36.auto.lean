/-! ===== rows that simp uses: numbers of the machine that are natural ones ===== -/
theorem nr_ {α : Type} {a b : α} (h : a = b) : a = b := by
  subst h
  exact Eq.symm rfl
theorem y_lt {α β : Type} {e : α} {f : α → β} : sd_lt e f = f e := nr_ rfl
theorem y_q1 {α γ : Type} {a : α} {f : α → Option γ} : sd_q1 (some a) f = f a := nr_ rfl
theorem y_q2 {α β γ : Type} {a : α} {b : β} {f : α → β → Option γ} : sd_q2 (some (a, b)) f = f a b := nr_ rfl
theorem g_in {α : Type} {x : Option α} {j N : Nat} (hj : j < N) (hN : N < 2 ^ 31) : sd_gu (sm_in (nI j) N = true) x = x := sn_gu (sn_in' hj hN)
theorem g_c0 {α : Type} {x : Option α} {N : Nat} (hj : 0 < N) (hN : N < 2 ^ 31) : sd_gu (sm_in 0 N = true) x = x := sn_gu (sn_in' (j := 0) hj hN)
theorem g_c1 {α : Type} {x : Option α} {N : Nat} (hj : 1 < N) (hN : N < 2 ^ 31) : sd_gu (sm_in 1 N = true) x = x := sn_gu (sn_in' (j := 1) hj hN)
theorem sn_q3 {α β δ γ : Type} {a : α} {b : β} {c : δ} {f : α → β → δ → Option γ} : sd_q3 (some (a, b, c)) f = f a b c := nr_ rfl
theorem sn_t1l {α γ : Type} {a : α} {f : α → Option γ} {g : Nat → Option γ} : sd_t1 (some (.inl a)) f g = f a := nr_ rfl
theorem sn_t1r {α γ : Type} {a : Nat} {f : α → Option γ} {g : Nat → Option γ} : sd_t1 (some (.inr a)) f g = g a := nr_ rfl
theorem sn_t2l {α β γ : Type} {a : α} {b : β} {f : α → β → Option γ} {g : Nat → β → Option γ} : sd_t2 (some (.inl a, b)) f g = f a b := nr_ rfl
theorem sn_t2r {α β γ : Type} {a : Nat} {b : β} {f : α → β → Option γ} {g : Nat → β → Option γ} : sd_t2 (some (.inr a, b)) f g = g a b := nr_ rfl
section XN
variable {a b : Nat}
theorem x_leT (h : a ≤ b) (hb : b < 2 ^ 31) : (nI a ≤ nI b) = True := eq_true (nI_le h hb)
theorem x_leF (h : b < a) (ha : a < 2 ^ 31) : (nI a ≤ nI b) = False := eq_false (nI_ge h ha)
theorem x_ltT (h : a < b) (hb : b < 2 ^ 31) : (nI a < nI b) = True := eq_true (nI_lt h hb)
theorem x_ltF (h : b ≤ a) (ha : a < 2 ^ 31) : (nI a < nI b) = False := eq_false (nI_nlt h ha)
theorem x_eqT (h : a = b) : (nI a = nI b) = True := eq_true (by rw [h])
theorem x_eqF (h : a ≠ b) (ha : a < 2 ^ 31) (hb : b < 2 ^ 31) : (nI a = nI b) = False := eq_false (fun z => h ((nI_eq ha hb).mp z))
theorem x_le0T (h : a = 0) : (nI a ≤ 0) = True := eq_true (by rw [h]; decide)
theorem x_le0F (h : 0 < a) (ha : a < 2 ^ 31) : (nI a ≤ 0) = False := eq_false (nI_nle h ha)
theorem x_0leT (ha : a < 2 ^ 31) : (0 ≤ nI a) = True := eq_true (nI_pos' ha)
theorem x_lt0F (ha : a < 2 ^ 31) : (nI a < 0) = False := eq_false (nI_pos ha)
theorem x_0ltT (h : 0 < a) (ha : a < 2 ^ 31) : (0 < nI a) = True := eq_true (nI_lt (a := 0) h ha)
theorem x_0ltF (h : a = 0) : (0 < nI a) = False := eq_false (by rw [h]; decide)
theorem x_eq0T (h : a = 0) : (nI a = 0) = True := eq_true (by rw [h]; rfl)
theorem x_eq0F (h : 0 < a) (ha : a < 2 ^ 31) : (nI a = 0) = False := eq_false (nI_ne0 h ha)
theorem x_le1T (h : a ≤ 1) : (nI a ≤ 1) = True := eq_true (nI_le (b := 1) h (by omega))
theorem x_le1F (h : 1 < a) (ha : a < 2 ^ 31) : (nI a ≤ 1) = False := eq_false (nI_ge (a := 1) h ha)
theorem x_1leT (h : 1 ≤ a) (ha : a < 2 ^ 31) : (1 ≤ nI a) = True := eq_true (nI_le (a := 1) h ha)
theorem x_1leF (h : a = 0) : (1 ≤ nI a) = False := eq_false (by rw [h]; decide)
theorem x_1ltT (h : 1 < a) (ha : a < 2 ^ 31) : (1 < nI a) = True := eq_true (nI_lt (a := 1) h ha)
theorem x_1ltF (h : a ≤ 1) : (1 < nI a) = False := eq_false (nI_nlt (a := 1) h (by omega))
theorem x_lt1T (h : a = 0) : (nI a < 1) = True := eq_true (by rw [h]; decide)
theorem x_lt1F (h : 1 ≤ a) (ha : a < 2 ^ 31) : (nI a < 1) = False := eq_false (nI_nlt (b := 1) h ha)
theorem x_eq1T (h : a = 1) : (nI a = 1) = True := eq_true (by rw [h]; rfl)
theorem x_eq1F (h : a ≠ 1) (ha : a < 2 ^ 31) : (nI a = 1) = False := eq_false (fun z => h ((nI_eq (b := 1) ha (by omega)).mp z))
theorem x_m1F (ha : a < 2 ^ 31) : (nI a = -1) = False := eq_false (sn_ne1 ha)
theorem x_sub (h : b ≤ a) : nI a - nI b = nI (a - b) := sn_sub h
theorem x_sub1 (h : 1 ≤ a) : nI a - 1 = nI (a - 1) := sn_sub (b := 1) h
theorem x_t0 {x : Int32} (h : a < 32) : ((x >>> (nI a &&& 31)) &&& 1 = 0) = (bt x a = false) := propext (bt_t0 x h)
theorem x_t1 {x : Int32} (h : a < 32) : ((x >>> (nI a &&& 31)) &&& 1 = 1) = (bt x a = true) := propext (bt_t1 x h)
theorem lts1 : (1 : Int32) <<< (nI a &&& 31) = b1 a := nr_ rfl
end XN
theorem x_10 : ((1 : Int32) = 0) = False := eq_false (by decide)
theorem x_1sub {a : Nat} (h : a ≤ 1) : (1 : Int32) - nI a = nI (1 - a) := sn_sub (a := 1) h
theorem l2 : (2 : Int32) = nI 2 := nr_ rfl
theorem l3 : (3 : Int32) = nI 3 := nr_ rfl
theorem l4 : (4 : Int32) = nI 4 := nr_ rfl
theorem l5 : (5 : Int32) = nI 5 := nr_ rfl
theorem l6 : (6 : Int32) = nI 6 := nr_ rfl
theorem l7 : (7 : Int32) = nI 7 := nr_ rfl
theorem l8 : (8 : Int32) = nI 8 := nr_ rfl
theorem l9 : (9 : Int32) = nI 9 := nr_ rfl
theorem l10 : (10 : Int32) = nI 10 := nr_ rfl
theorem l11 : (11 : Int32) = nI 11 := nr_ rfl
theorem l13 : (13 : Int32) = nI 13 := nr_ rfl
theorem l12 : (12 : Int32) = nI 12 := nr_ rfl
theorem l14 : (14 : Int32) = nI 14 := nr_ rfl
theorem l15 : (15 : Int32) = nI 15 := nr_ rfl
theorem l20 : (20 : Int32) = nI 20 := nr_ rfl
theorem l30 : (30 : Int32) = nI 30 := nr_ rfl
theorem l40 : (40 : Int32) = nI 40 := nr_ rfl
theorem l48 : (48 : Int32) = nI 48 := nr_ rfl
theorem l60 : (60 : Int32) = nI 60 := nr_ rfl
theorem l64 : (64 : Int32) = nI 64 := nr_ rfl
theorem l99 : (99 : Int32) = nI 99 := nr_ rfl
theorem l100 : (100 : Int32) = nI 100 := nr_ rfl
theorem l700 : (700 : Int32) = nI 700 := nr_ rfl
theorem l999 : (999 : Int32) = nI 999 := nr_ rfl
/-! ===== the model's code ===== -/
def mco (off s : Nat) : List Nat := if s < 10000 then [1, s] else if s < 20000 then [2, s - 10000 + off] else if s = 20002 then [3] else [mop (s - 20000)]
def mcs (off : Nat) : List Nat → List Nat
  | [] => [0]
  | s :: P => mco off s ++ mcs off P
theorem mop_ge : ∀ o, 4 ≤ mop o ∧ mop o ≤ 11 := by
  intro o
  unfold mop
  split <;> omega
theorem stp_no {val : Nat → Int32} {x : Int32} {q : List Int32} : stp val 20002 (x :: q) = (if ¬ x = 0 then 0 else 1) :: q := by
  unfold stp
  rw [if_neg (by omega), if_neg (by omega), if_pos rfl]
theorem mco_no {off : Nat} : mco off 20002 = [3] := by
  unfold mco
  rw [if_neg (by omega), if_neg (by omega), if_pos rfl]
theorem m_res {nv off : Nat} {val : Nat → Int32} (hn : off + nv ≤ 10) : ∀ (P : List Nat) (pos : Nat) (st : List Int32) (I : sm_MI) (f : Nat), okp nv P st.length → st.length ≤ 60 → stk 90 I st →
    (∀ i c, (mcs off P)[i]? = some c → I 71 (pos + i) = nI c ∧ pos + i < 2800) → (∀ k, k < nv → I 89 (k + off) = val k) → P.length < f →
    ∃ I', F_Mo_reckons_4 f (nI st.length) (nI pos) I = some (ev val P st, I') ∧ ∀ k, k ≠ 90 → I' k = I k
  | [], pos, st, I, f, hok, hl, hs, hp, hv, hf => by
    obtain ⟨f, rfl⟩ : ∃ g, f = g + 1 := ⟨f - 1, by omega⟩
    obtain ⟨h0, h1⟩ := hp 0 0 rfl
    rw [Nat.add_zero] at h0 h1
    refine ⟨I, ?_, fun _ _ => rfl⟩
    show F_Mo_reckons_4B (F_Mo_reckons_4 f) (nI st.length) (nI pos) I = _
    unfold F_Mo_reckons_4B
    simp (disch := omega) only [↓g_in, ↓g_c0, ↓g_c1, ↓reduceIte, y_lt, y_q1, y_q2, sn_q3, sn_t1l, sn_t1r, sn_t2l, sn_t2r, nI_clamp, x_leT, x_leF, x_ltT, x_ltF, x_eqT, x_eqF, x_le0T, x_le0F, x_0leT, x_lt0F, x_0ltT, x_0ltF, x_eq0T, x_eq0F, x_le1T, x_le1F, x_1leT, x_1leF, x_1ltT, x_1ltF, x_lt1T, x_lt1F, x_eq1T, x_eq1F, x_m1F, nI_add, nI_1, sn_mul, x_sub, x_sub1, sn_m1, l2, l3, l4, l5, l6, l7, l8, l9, l10, l11, l12, l13, l14, l15, l20, l30, l40, l48, l60, l64, l99, l100, l700, l999, not_true_eq_false, not_false_eq_true, x_t0, x_t1, lts1, x_10, x_1sub, eq_self, Nat.reduceSub, Nat.reduceAdd, Nat.reduceMul, h0]
    match st, hok, hs with
    | [x], _, hs => rw [show I 90 0 = x from hs.1]; rfl
    | [], hok, _ => cases hok
    | _ :: _ :: _, hok, _ => cases hok
  | s :: P, pos, st, I, f, hok, hl, hs, hp, hv, hf => by
    have hf2 : P.length + 1 < f := hf
    obtain ⟨f, rfl⟩ : ∃ g, f = g + 1 := ⟨f - 1, by omega⟩
    have go : ∀ (I' : sm_MI) (st' : List Int32) (m : Nat), (∀ k, k ≠ 90 → I' k = I k) → okp nv P st'.length → st'.length ≤ 60 → stk 90 I' st' → stp val s st = st' → m = (mco off s).length →
        ∃ I'', F_Mo_reckons_4 f (nI st'.length) (nI (pos + m)) I' = some (ev val (s :: P) st, I'') ∧ ∀ k, k ≠ 90 → I'' k = I k := by
      intro I' st' m hI h1 h2 h3 h4 h5
      obtain ⟨I'', e1, e2⟩ := m_res (val := val) hn P (pos + m) st' I' f h1 h2 h3 (fun i c hc => by
        rw [hI 71 (by omega), show pos + m + i = pos + (m + i) by omega]
        refine hp (m + i) c ?_
        show (mco off s ++ mcs off P)[m + i]? = some c
        rw [List.getElem?_append_right (by omega), h5, show (mco off s).length + i - (mco off s).length = i by omega]
        exact hc) (fun k hk => by rw [hI 89 (by omega)]; exact hv k hk) (by omega)
      refine ⟨I'', ?_, fun k hk => by rw [e2 k hk, hI k hk]⟩
      rw [e1, ev, h4]
    have upI : ∀ j x, ∀ k, k ≠ 90 → sd_up I 90 j x k = I k := fun j x k hk => up_n hk
    show ∃ I', F_Mo_reckons_4B (F_Mo_reckons_4 f) (nI st.length) (nI pos) I = some (ev val (s :: P) st, I') ∧ _
    unfold F_Mo_reckons_4B F_Mo_reckons_21
    rcases hok with ⟨k1, k2, k3⟩ | ⟨k1, k2, k3⟩ | ⟨k1, k2, k3, k4, k5⟩
    · by_cases hs1 : s < 10000
      · have em : mco off s = [1, s] := by unfold mco; rw [if_pos hs1]
        obtain ⟨h0, h0'⟩ := hp 0 1 (by show (mco off s ++ mcs off P)[0]? = _; rw [em]; rfl)
        obtain ⟨h1, h1'⟩ := hp 1 s (by show (mco off s ++ mcs off P)[1]? = _; rw [em]; rfl)
        rw [Nat.add_zero] at h0 h0'
        simp (disch := omega) only [↓g_in, ↓g_c0, ↓g_c1, ↓reduceIte, y_lt, y_q1, y_q2, sn_q3, sn_t1l, sn_t1r, sn_t2l, sn_t2r, nI_clamp, x_leT, x_leF, x_ltT, x_ltF, x_eqT, x_eqF, x_le0T, x_le0F, x_0leT, x_lt0F, x_0ltT, x_0ltF, x_eq0T, x_eq0F, x_le1T, x_le1F, x_1leT, x_1leF, x_1ltT, x_1ltF, x_lt1T, x_lt1F, x_eq1T, x_eq1F, x_m1F, nI_add, nI_1, sn_mul, x_sub, x_sub1, sn_m1, l2, l3, l4, l5, l6, l7, l8, l9, l10, l11, l12, l13, l14, l15, l20, l30, l40, l48, l60, l64, l99, l100, l700, l999, not_true_eq_false, not_false_eq_true, x_t0, x_t1, lts1, x_10, x_1sub, eq_self, Nat.reduceSub, Nat.reduceAdd, Nat.reduceMul, h0, h1]
        exact go _ (nI s :: st) 2 (upI _ _) k3 (by show st.length + 1 ≤ 60; omega) ⟨up_s, stk_up hs (Nat.le_refl _)⟩ (by unfold stp; rw [if_pos hs1]) (by rw [em]; rfl)
      · have em : mco off s = [2, s - 10000 + off] := by unfold mco; rw [if_neg hs1, if_pos (by omega)]
        obtain ⟨h0, h0'⟩ := hp 0 2 (by show (mco off s ++ mcs off P)[0]? = _; rw [em]; rfl)
        obtain ⟨h1, h1'⟩ := hp 1 (s - 10000 + off) (by show (mco off s ++ mcs off P)[1]? = _; rw [em]; rfl)
        rw [Nat.add_zero] at h0 h0'
        simp (disch := omega) only [↓g_in, ↓g_c0, ↓g_c1, ↓reduceIte, y_lt, y_q1, y_q2, sn_q3, sn_t1l, sn_t1r, sn_t2l, sn_t2r, nI_clamp, x_leT, x_leF, x_ltT, x_ltF, x_eqT, x_eqF, x_le0T, x_le0F, x_0leT, x_lt0F, x_0ltT, x_0ltF, x_eq0T, x_eq0F, x_le1T, x_le1F, x_1leT, x_1leF, x_1ltT, x_1ltF, x_lt1T, x_lt1F, x_eq1T, x_eq1F, x_m1F, nI_add, nI_1, sn_mul, x_sub, x_sub1, sn_m1, l2, l3, l4, l5, l6, l7, l8, l9, l10, l11, l12, l13, l14, l15, l20, l30, l40, l48, l60, l64, l99, l100, l700, l999, not_true_eq_false, not_false_eq_true, x_t0, x_t1, lts1, x_10, x_1sub, eq_self, Nat.reduceSub, Nat.reduceAdd, Nat.reduceMul, h0, h1, hv (s - 10000) (by omega)]
        exact go _ (val (s - 10000) :: st) 2 (upI _ _) k3 (by show st.length + 1 ≤ 60; omega) ⟨up_s, stk_up hs (Nat.le_refl _)⟩ (by unfold stp; rw [if_neg hs1, if_pos (by omega)]) (by rw [em]; rfl)
    · subst k1
      have em : mco off 20002 = [3] := mco_no
      obtain ⟨h0, h0'⟩ := hp 0 3 (by show (mco off 20002 ++ mcs off P)[0]? = _; rw [em]; rfl)
      rw [Nat.add_zero] at h0 h0'
      match st, hs, k2, k3, hl, go with
      | x :: q, hs, k2, k3, hl, go =>
        have hl2 : q.length + 1 ≤ 60 := hl
        have e : (x :: q).length = q.length + 1 := rfl
        by_cases hx : x = 0
        · subst hx
          have hs1 : I 90 q.length = 0 := hs.1
          simp (disch := omega) only [↓g_in, ↓g_c0, ↓g_c1, ↓reduceIte, y_lt, y_q1, y_q2, sn_q3, sn_t1l, sn_t1r, sn_t2l, sn_t2r, nI_clamp, x_leT, x_leF, x_ltT, x_ltF, x_eqT, x_eqF, x_le0T, x_le0F, x_0leT, x_lt0F, x_0ltT, x_0ltF, x_eq0T, x_eq0F, x_le1T, x_le1F, x_1leT, x_1leF, x_1ltT, x_1ltF, x_lt1T, x_lt1F, x_eq1T, x_eq1F, x_m1F, nI_add, nI_1, sn_mul, x_sub, x_sub1, sn_m1, l2, l3, l4, l5, l6, l7, l8, l9, l10, l11, l12, l13, l14, l15, l20, l30, l40, l48, l60, l64, l99, l100, l700, l999, not_true_eq_false, not_false_eq_true, x_t0, x_t1, lts1, x_10, x_1sub, eq_self, Nat.reduceSub, Nat.reduceAdd, Nat.reduceMul, List.length_cons, h0, Nat.add_sub_cancel, hs1]
          exact go _ (1 :: q) 1 (upI _ _) k3 hl ⟨up_s, stk_up hs.2 (Nat.le_refl _)⟩ (by rw [stp_no, if_neg (sn_nn rfl)]) (by rw [em]; rfl)
        · simp (disch := omega) only [↓g_in, ↓g_c0, ↓g_c1, ↓reduceIte, y_lt, y_q1, y_q2, sn_q3, sn_t1l, sn_t1r, sn_t2l, sn_t2r, nI_clamp, x_leT, x_leF, x_ltT, x_ltF, x_eqT, x_eqF, x_le0T, x_le0F, x_0leT, x_lt0F, x_0ltT, x_0ltF, x_eq0T, x_eq0F, x_le1T, x_le1F, x_1leT, x_1leF, x_1ltT, x_1ltF, x_lt1T, x_lt1F, x_eq1T, x_eq1F, x_m1F, nI_add, nI_1, sn_mul, x_sub, x_sub1, sn_m1, l2, l3, l4, l5, l6, l7, l8, l9, l10, l11, l12, l13, l14, l15, l20, l30, l40, l48, l60, l64, l99, l100, l700, l999, not_true_eq_false, not_false_eq_true, x_t0, x_t1, lts1, x_10, x_1sub, eq_self, Nat.reduceSub, Nat.reduceAdd, Nat.reduceMul, List.length_cons, h0, Nat.add_sub_cancel, hs.1, hx]
          exact go _ (0 :: q) 1 (upI _ _) k3 hl ⟨up_s, stk_up hs.2 (Nat.le_refl _)⟩ (by rw [stp_no, if_pos hx]) (by rw [em]; rfl)
    · have em : mco off s = [mop (s - 20000)] := by unfold mco; rw [if_neg (by omega), if_neg (by omega), if_neg k3]
      obtain ⟨h0, h0'⟩ := hp 0 (mop (s - 20000)) (by show (mco off s ++ mcs off P)[0]? = _; rw [em]; rfl)
      rw [Nat.add_zero] at h0 h0'
      have hm := mop_ge (s - 20000)
      match st, hs, k4, k5, hl, go with
      | y :: x :: q, hs, k4, k5, hl, go =>
        have hl2 : q.length + 1 + 1 ≤ 60 := hl
        have e1 : (y :: x :: q).length = q.length + 1 + 1 := rfl
        have hy : I 90 (q.length + 1) = y := hs.1
        have hx : I 90 q.length = x := hs.2.1
        simp (disch := omega) only [↓g_in, ↓g_c0, ↓g_c1, ↓reduceIte, y_lt, y_q1, y_q2, sn_q3, sn_t1l, sn_t1r, sn_t2l, sn_t2r, nI_clamp, x_leT, x_leF, x_ltT, x_ltF, x_eqT, x_eqF, x_le0T, x_le0F, x_0leT, x_lt0F, x_0ltT, x_0ltF, x_eq0T, x_eq0F, x_le1T, x_le1F, x_1leT, x_1leF, x_1ltT, x_1ltF, x_lt1T, x_lt1F, x_eq1T, x_eq1F, x_m1F, nI_add, nI_1, sn_mul, x_sub, x_sub1, sn_m1, l2, l3, l4, l5, l6, l7, l8, l9, l10, l11, l12, l13, l14, l15, l20, l30, l40, l48, l60, l64, l99, l100, l700, l999, not_true_eq_false, not_false_eq_true, x_t0, x_t1, lts1, x_10, x_1sub, eq_self, Nat.reduceSub, Nat.reduceAdd, Nat.reduceMul, e1, h0, Nat.add_sub_cancel, hx, hy, m_works (show s - 20000 ≤ 8 by omega) (show s - 20000 ≠ 2 by omega)]
        refine go _ (opx (s - 20000) x y :: q) 1 (upI _ _) k5 (by show q.length + 1 ≤ 60; omega) ⟨up_s, stk_up hs.2.2 (Nat.le_refl _)⟩ ?_ (by rw [em]; rfl)
        unfold stp
        rw [if_neg (by omega), if_neg (by omega), if_neg k3]
      | [y], hs, k4, k5, hl, go => exact absurd k4 (by show ¬ 2 ≤ 1; omega)
      | [], hs, k4, k5, hl, go => exact absurd k4 (by show ¬ 2 ≤ 0; omega)
