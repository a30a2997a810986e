/-! ===== rules: the class's steps and the model's code ===== -/
theorem up_n {I : sm_MI} {k k' j : Nat} {x : Int32} (h : k' ≠ k) : sd_up I k j x k' = I k' := by
  unfold sd_up va_up
  rw [if_neg h]
theorem up_s {I : sm_MI} {k j : Nat} {x : Int32} : sd_up I k j x k j = x := by
  unfold sd_up va_up
  rw [if_pos rfl]
  exact pk_us
theorem up_m {I : sm_MI} {k j j' : Nat} {x : Int32} (h : j' ≠ j) : sd_up I k j x k j' = I k j' := by
  unfold sd_up va_up
  rw [if_pos rfl]
  exact pk_un h
/-- a stack in a row of cells, its top last -/
def stk (k : Nat) (I : sm_MI) : List Int32 → Prop
  | [] => True
  | x :: r => I k r.length = x ∧ stk k I r
theorem stk_up {k j : Nat} {I : sm_MI} {x : Int32} : ∀ {st : List Int32}, stk k I st → st.length ≤ j → stk k (sd_up I k j x) st
  | [], _, _ => trivial
  | y :: r, h, hj => by
    have hj2 : r.length + 1 ≤ j := hj
    exact ⟨by rw [up_m (by omega)]; exact h.1, stk_up h.2 (by omega)⟩
/-- operators by their numbers: 0 or, 1 and, 3 less, 4 like, 5 plus, 6 minus, 7 times, 8 by -/
def opx : Nat → Int32 → Int32 → Int32
  | 0, x, y => if ¬ x = 0 then 1 else if y = 0 then 0 else 1
  | 1, x, y => if x = 0 then 0 else if y = 0 then 0 else 1
  | 3, x, y => if y ≤ x then 0 else 1
  | 4, x, y => if ¬ x = y then 0 else 1
  | 5, x, y => x + y
  | 6, x, y => x - y
  | 7, x, y => x * y
  | _, x, y => if ¬ y = 0 then x / y else 0
def stp (val : Nat → Int32) (s : Nat) (st : List Int32) : List Int32 :=
  if s < 10000 then nI s :: st else if s < 20000 then val (s - 10000) :: st else if s = 20002 then (match st with
    | x :: q => (if ¬ x = 0 then 0 else 1) :: q
    | [] => []) else (match st with
    | y :: x :: q => opx (s - 20000) x y :: q
    | q => q)
def ev (val : Nat → Int32) : List Nat → List Int32 → Int32
  | [], st => st.headD 0
  | s :: r, st => ev val r (stp val s st)
def okp (nv : Nat) : List Nat → Nat → Prop
  | [], h => h = 1
  | s :: r, h => (s < 10000 + nv ∧ h < 60 ∧ okp nv r (h + 1)) ∨ (s = 20002 ∧ 1 ≤ h ∧ okp nv r h) ∨ (20000 ≤ s ∧ s ≤ 20008 ∧ s ≠ 20002 ∧ 2 ≤ h ∧ okp nv r (h - 1))
theorem c_apply {o : Nat} {x y : Int32} (h : o ≤ 8) (h2 : o ≠ 2) : F_Rules_apply (nI (20000 + o)) x y = some (opx o x y) := by
  have key : ∀ a b : Nat, a < 30000 → b < 30000 → (nI a = nI b ↔ a = b) := fun a b ha hb => nI_eq (by omega) (by omega)
  unfold F_Rules_apply
  rcases (show o = 0 ∨ o = 1 ∨ o = 3 ∨ o = 4 ∨ o = 5 ∨ o = 6 ∨ o = 7 ∨ o = 8 by omega) with rfl | rfl | rfl | rfl | rfl | rfl | rfl | rfl
  · rw [if_pos (by decide)]
    show _ = some (if ¬ x = 0 then 1 else if y = 0 then 0 else 1)
    split
    · rfl
    · split <;> rfl
  · rw [if_neg (by decide), if_pos (by decide)]
    show _ = some (if x = 0 then 0 else if y = 0 then 0 else 1)
    split
    · rfl
    · split <;> rfl
  · rw [if_neg (by decide), if_neg (by decide), if_neg (by decide), if_pos (by decide)]
    show _ = some (if y ≤ x then 0 else 1)
    split <;> rfl
  · rw [if_neg (by decide), if_neg (by decide), if_neg (by decide), if_neg (by decide), if_pos (by decide)]
    show _ = some (if ¬ x = y then 0 else 1)
    split <;> rfl
  · rw [if_neg (by decide), if_neg (by decide), if_neg (by decide), if_neg (by decide), if_neg (by decide), if_pos (by decide)]
    rfl
  · rw [if_neg (by decide), if_neg (by decide), if_neg (by decide), if_neg (by decide), if_neg (by decide), if_neg (by decide), if_pos (by decide)]
    rfl
  · rw [if_neg (by decide), if_neg (by decide), if_neg (by decide), if_neg (by decide), if_neg (by decide), if_neg (by decide), if_neg (by decide), if_pos (by decide)]
    rfl
  · rw [if_neg (by decide), if_neg (by decide), if_neg (by decide), if_neg (by decide), if_neg (by decide), if_neg (by decide), if_neg (by decide), if_neg (by decide), if_pos (by decide)]
    show _ = some (if ¬ y = 0 then x / y else 0)
    split
    · rename_i hy; rw [sn_gu hy]
    · rfl
/-- the model's number of an operator -/
def mop : Nat → Nat
  | 0 => 5
  | 1 => 4
  | 3 => 6
  | 4 => 7
  | 5 => 8
  | 6 => 9
  | 7 => 10
  | _ => 11
theorem m_works {o : Nat} {x y : Int32} (h : o ≤ 8) (h2 : o ≠ 2) : F_Mo_works (nI (mop o)) x y = some (opx o x y) := by
  unfold F_Mo_works
  rcases (show o = 0 ∨ o = 1 ∨ o = 3 ∨ o = 4 ∨ o = 5 ∨ o = 6 ∨ o = 7 ∨ o = 8 by omega) with rfl | rfl | rfl | rfl | rfl | rfl | rfl | rfl
  · rw [if_neg (by decide), if_pos (by decide)]
    show _ = some (if ¬ x = 0 then 1 else if y = 0 then 0 else 1)
    split
    · rfl
    · split <;> rfl
  · rw [if_pos (by decide)]
    show _ = some (if x = 0 then 0 else if y = 0 then 0 else 1)
    split
    · rfl
    · split <;> rfl
  · rw [if_neg (by decide), if_neg (by decide), if_pos (by decide)]
    show _ = some (if y ≤ x then 0 else 1)
    split <;> rfl
  · rw [if_neg (by decide), if_neg (by decide), if_neg (by decide), if_pos (by decide)]
    show _ = some (if ¬ x = y then 0 else 1)
    split <;> rfl
  · rw [if_neg (by decide), if_neg (by decide), if_neg (by decide), if_neg (by decide), if_pos (by decide)]
    rfl
  · rw [if_neg (by decide), if_neg (by decide), if_neg (by decide), if_neg (by decide), if_neg (by decide), if_pos (by decide)]
    rfl
  · rw [if_neg (by decide), if_neg (by decide), if_neg (by decide), if_neg (by decide), if_neg (by decide), if_neg (by decide), if_pos (by decide)]
    rfl
  · rw [if_neg (by decide), if_neg (by decide), if_neg (by decide), if_neg (by decide), if_neg (by decide), if_neg (by decide), if_neg (by decide)]
    show _ = some (if ¬ y = 0 then x / y else 0)
    split
    · rename_i hy; rw [sn_gu hy]
    · rfl
theorem c_operand {p s nv : Nat} {val : Nat → Int32} {I : sm_MI} (hn : nv ≤ 6) (hv : ∀ k, k < nv → I (p + 4) k = val k) (h : s < 10000 + nv) : F_Rules_operand p (nI s) I = some (if s < 10000 then nI s else val (s - 10000)) := by
  unfold F_Rules_operand
  rw [sn_lt]
  by_cases h1 : s < 10000
  · have : (nI s - 10000) < 0 := by
      rw [Int32.lt_iff_toInt_lt, Int32.toInt_sub, nI_toInt (by omega), show (10000 : Int32).toInt = 10000 from by decide, show (0 : Int32).toInt = 0 from rfl, Int.bmod_eq_of_le (by omega) (by omega)]
      omega
    rw [if_pos this, if_pos h1]
  · rw [show nI s - 10000 = nI (s - 10000) from sn_sub (b := 10000) (by omega), if_neg (nI_pos (by omega)), if_neg (show ¬ (6 : Int32) ≤ nI (s - 10000) from nI_ge (b := 6) (by omega) (by omega)), sn_gu (sn_in' (by omega) (by omega)), nI_clamp (by omega), if_neg h1, hv _ (by omega)]
theorem sn_m1 {h : Nat} (h1 : 1 ≤ h) : nI h + -1 = nI (h - 1) := by
  obtain ⟨k, rfl⟩ : ∃ k, h = k + 1 := ⟨h - 1, by omega⟩
  rw [show k + 1 - 1 = k by omega, nI_succ]
  apply Int32.toBitVec_inj.1
  show (nI k).toBitVec + 1#32 + (-1#32) = (nI k).toBitVec
  generalize (nI k).toBitVec = b
  rw [BitVec.add_assoc, show (1#32 + -1#32) = 0#32 from by decide, BitVec.add_zero]
theorem c_res {p ρ nv : Nat} {val : Nat → Int32} (hn : nv ≤ 6) (hρ : ρ < 4) : ∀ (P : List Nat) (pos : Nat) (st : List Int32) (I : sm_MI) (f : Nat), okp nv P st.length → st.length ≤ 60 → stk (p + 5) I st → (∀ i s, P[i]? = some s → I (p + 1) (pos + i) = nI s) →
    I (p + 3) ρ = nI (pos + P.length) → pos + P.length ≤ 700 → (∀ k, k < nv → I (p + 4) k = val k) → P.length < f →
    ∃ I', F_Rules_result_13 p f (nI ρ) (nI st.length) (nI pos) I = some (ev val P st, I') ∧ ∀ k, k ≠ p + 5 → I' k = I k
  | [], pos, st, I, f, hok, hl, hs, hp, hto, h7, hv, hf => by
    obtain ⟨f, rfl⟩ : ∃ g, f = g + 1 := ⟨f - 1, by omega⟩
    refine ⟨I, ?_, fun _ _ => rfl⟩
    show F_Rules_result_13B p (F_Rules_result_13 p f) (nI ρ) (nI st.length) (nI pos) I = _
    unfold F_Rules_result_13B
    rw [sn_gu (sn_in' hρ (by omega)), nI_clamp (by omega), hto, show pos + ([] : List Nat).length = pos from rfl, if_pos (Int32.le_refl _), sn_gu (by decide)]
    match st, hok, hs with
    | [x], _, hs => rw [show I (p + 5) 0 = x from hs.1]; rfl
    | [], hok, _ => cases hok
    | _ :: _ :: _, hok, _ => cases hok
  | s :: P, pos, st, I, f, hok, hl, hs, hp, hto, h7, hv, hf => by
    have hlen : (s :: P).length = P.length + 1 := rfl
    rw [hlen] at hto h7 hf
    obtain ⟨f, rfl⟩ : ∃ g, f = g + 1 := ⟨f - 1, by omega⟩
    have h0 : I (p + 1) pos = nI s := hp 0 s rfl
    have hp' : ∀ (I' : sm_MI), (∀ k, k ≠ p + 5 → I' k = I k) → ∀ i s, P[i]? = some s → I' (p + 1) (pos + 1 + i) = nI s := fun I' hI i s hi => by
      rw [hI _ (by omega), show pos + 1 + i = pos + (i + 1) by omega]
      exact hp (i + 1) s (by simpa using hi)
    have hto' : ∀ (I' : sm_MI), (∀ k, k ≠ p + 5 → I' k = I k) → I' (p + 3) ρ = nI (pos + 1 + P.length) := fun I' hI => by
      rw [hI _ (by omega), hto, show pos + (P.length + 1) = pos + 1 + P.length by omega]
    have hv' : ∀ (I' : sm_MI), (∀ k, k ≠ p + 5 → I' k = I k) → ∀ k, k < nv → I' (p + 4) k = val k := fun I' hI k hk => by rw [hI _ (by omega)]; exact hv k hk
    have go : ∀ (I' : sm_MI) (st' : List Int32), (∀ k, k ≠ p + 5 → I' k = I k) → okp nv P st'.length → st'.length ≤ 60 → stk (p + 5) I' st' → stp val s st = st' →
        ∃ I'', F_Rules_result_13 p f (nI ρ) (nI st'.length) (nI (pos + 1)) I' = some (ev val (s :: P) st, I'') ∧ ∀ k, k ≠ p + 5 → I'' k = I k := by
      intro I' st' hI h1 h2 h3 h4
      obtain ⟨I'', e1, e2⟩ := c_res hn hρ P (pos + 1) st' I' f h1 h2 h3 (hp' I' hI) (hto' I' hI) (by omega) (hv' I' hI) (by omega)
      refine ⟨I'', ?_, fun k hk => by rw [e2 k hk, hI k hk]⟩
      rw [e1, ev, h4]
    have upI : ∀ j x, ∀ k, k ≠ p + 5 → sd_up I (p + 5) j x k = I k := fun j x k hk => up_n hk
    show ∃ I', F_Rules_result_13B p (F_Rules_result_13 p f) (nI ρ) (nI st.length) (nI pos) I = some (ev val (s :: P) st, I') ∧ _
    unfold F_Rules_result_13B
    rw [sn_gu (sn_in' hρ (by omega)), nI_clamp (show ρ < 2 ^ 31 by omega), hto, if_neg (nI_ge (by omega) (by omega)), if_neg (show ¬ (700 : Int32) ≤ nI pos from nI_ge (b := 700) (by omega) (by omega)), sn_gu (sn_in' (by omega) (by omega)), nI_clamp (show pos < 2 ^ 31 by omega), h0, sn_lt, nI_1]
    rcases hok with ⟨k1, k2, k3⟩ | ⟨k1, k2, k3⟩ | ⟨k1, k2, k3, k4, k5⟩
    · rw [if_neg (show ¬ (20000 : Int32) ≤ nI s from nI_ge (b := 20000) (by omega) (by omega)), if_neg (show ¬ (64 : Int32) ≤ nI st.length from nI_ge (b := 64) (by omega) (by omega)), c_operand hn hv k1, sn_q1, sn_gu (sn_in' (by omega) (by omega)), nI_clamp (by omega), sn_lt, nI_1]
      refine go _ ((if s < 10000 then nI s else val (s - 10000)) :: st) (upI _ _) k3 (by show st.length + 1 ≤ 60; omega) ⟨up_s, stk_up hs (Nat.le_refl _)⟩ ?_
      unfold stp
      by_cases h1 : s < 10000
      · rw [if_pos h1, if_pos h1]
      · rw [if_neg h1, if_neg h1, if_pos (by omega)]
    · subst k1
      rw [if_pos (show (20000 : Int32) ≤ nI 20002 from nI_le (a := 20000) (by omega) (by omega)), if_neg (sn_nn (show nI 20002 = (20002 : Int32) from rfl)), if_neg (nI_nle (by omega) (by omega)), show nI st.length - 1 = nI (st.length - 1) from sn_sub (b := 1) (by omega), sn_gu (sn_in' (by omega) (by omega)), nI_clamp (by omega)]
      match st, hs, k2, k3, hl, go with
      | x :: q, hs, k2, k3, hl, go =>
        have e : (x :: q).length - 1 = q.length := by show q.length + 1 - 1 = q.length; omega
        rw [e, hs.1]
        by_cases hx : ¬ x = 0
        · rw [if_pos hx, sn_gu (sn_in' (by have : q.length + 1 ≤ 60 := hl; omega) (by omega)), sn_lt]
          exact go _ (0 :: q) (upI _ _) k3 hl ⟨up_s, stk_up hs.2 (Nat.le_refl _)⟩ (by show (if ¬ x = 0 then (0 : Int32) else 1) :: q = _; rw [if_pos hx])
        · rw [if_neg hx, sn_gu (sn_in' (by have : q.length + 1 ≤ 60 := hl; omega) (by omega)), sn_lt]
          exact go _ (1 :: q) (upI _ _) k3 hl ⟨up_s, stk_up hs.2 (Nat.le_refl _)⟩ (by show (if ¬ x = 0 then (0 : Int32) else 1) :: q = _; rw [if_neg hx])
    · rw [if_pos (show (20000 : Int32) ≤ nI s from nI_le (a := 20000) (by omega) (by omega)), if_pos (show ¬ nI s = (20002 : Int32) from fun z => k3 ((nI_eq (b := 20002) (by omega) (by omega)).mp z)), if_neg (show ¬ nI st.length ≤ (1 : Int32) from nI_ge (a := 1) (by omega) (by omega))]
      match st, hs, k4, k5, hl, go with
      | y :: x :: q, hs, k4, k5, hl, go =>
        have hl2 : q.length + 1 + 1 ≤ 60 := hl
        have e1 : (y :: x :: q).length = q.length + 1 + 1 := rfl
        rw [e1, sn_m1 (by omega), show q.length + 1 + 1 - 1 = q.length + 1 by omega, show nI (q.length + 1) - 1 = nI q.length from nI_pred _, sn_gu (sn_in' (by omega) (by omega)), sn_gu (sn_in' (by omega) (by omega)), nI_clamp (by omega), nI_clamp (by omega),
          show I (p + 5) (q.length + 1) = y from hs.1, show I (p + 5) q.length = x from hs.2.1, show nI s = nI (20000 + (s - 20000)) from by rw [show 20000 + (s - 20000) = s by omega], c_apply (by omega) (by omega), sn_q1, sn_gu (sn_in' (by omega) (by omega)), sn_lt]
        refine go _ (opx (s - 20000) x y :: q) (upI _ _) k5 (by show q.length + 1 ≤ 60; omega) ⟨up_s, stk_up hs.2.2 (Nat.le_refl _)⟩ ?_
        unfold stp
        rw [if_neg (by omega), if_neg (by omega), if_neg k3]
      | [y], hs, k4, k5, hl, go => exact absurd k4 (by show ¬ 2 ≤ 1; omega)
      | [], hs, k4, k5, hl, go => exact absurd k4 (by show ¬ 2 ≤ 0; omega)
