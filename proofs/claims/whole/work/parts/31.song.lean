/-! ===== sets of singers, what can be sung: the class's rows and the model's ===== -/
theorem or0 (x : Int32) : x ||| 0 = x := by
  apply b_ext
  intro i _
  rw [b_or, b_0, Bool.or_false]
theorem sn_nn {c : Prop} (h : c) : ¬ ¬ c := fun z => z h
theorem mo_bits (x : Int32) : F_Mo_bits x = some (nI (pc x)) := by
  have h := (lp_it (fun f j a => F_Mo_bits_4 f x a j) (fun j a => a + (if bt x j then 1 else 0)) (fun a => a) 14 (fun _ _ => True) ?_ ?_ sd_fu 0 (by rw [sd_fu_val]; omega) trivial).1
  · have key : ∀ n, itr (fun j (a : Int32) => a + (if bt x j then 1 else 0)) n 0 = nI (cn (bt x) n) := by
      intro n
      induction n with
      | zero => rfl
      | succ n ih =>
        rw [itr, cn, ih]
        split
        · rw [nI_succ]
        · rw [← nI_0, nI_add]
    rw [key] at h
    exact h
  · intro f a _
    show F_Mo_bits_4B (F_Mo_bits_4 f) x a (nI 14) = _
    unfold F_Mo_bits_4B
    rw [if_pos (show (14 : Int32) ≤ nI 14 from Int32.le_refl _)]
  · intro f j a hj _
    refine ⟨trivial, ?_⟩
    show F_Mo_bits_4B (F_Mo_bits_4 f) x a (nI j) = _
    unfold F_Mo_bits_4B
    rw [if_neg (show ¬ (14 : Int32) ≤ nI j from nI_ge (b := 14) hj (by omega)), bt_test x (by omega), nI_1]
    rfl
theorem mo_areSo {I : sm_MI} {n p : Nat} {x : Int32} (hn : I 61 1 = nI n) (h14 : n ≤ 14) : F_Mo_areSo p x I = some (bs (fun s => decide (I p s = x)) n) := by
  have h := (lp_it (fun f j a => F_Mo_areSo_4 p I f x a j) (fun j a => if decide (I p j = x) then a ||| b1 j else a) (fun a => a) n (fun _ _ => True) ?_ ?_ sd_fu 0 (by rw [sd_fu_val]; omega) trivial).1
  · rw [itr_bs] at h
    exact h
  · intro f a _
    show F_Mo_areSo_4B p _ x a (nI n) I = _
    unfold F_Mo_areSo_4B
    rw [hn, if_pos (Int32.le_refl _)]
  · intro f j a hj _
    refine ⟨trivial, ?_⟩
    show F_Mo_areSo_4B p (F_Mo_areSo_4 p I f) x a (nI j) I = _
    unfold F_Mo_areSo_4B
    rw [hn, if_neg (nI_ge hj (by omega)), sn_gu (sn_in' (by omega) (by omega)), nI_clamp (by omega), nI_1]
    by_cases h : I p j = x
    · rw [if_neg (sn_nn h), if_pos (decide_eq_true h)]
      rfl
    · rw [if_pos h, if_neg (by simpa using h), or0]
      rfl
theorem mo_ofSide {I : sm_MI} {n : Nat} {x : Int32} (hn : I 61 1 = nI n) (h14 : n ≤ 14) : F_Mo_ofSide x I = some (bs (fun s => decide (I 62 s = x)) n) := by
  have h := (lp_it (fun f j a => F_Mo_ofSide_4 I f x a j) (fun j a => if decide (I 62 j = x) then a ||| b1 j else a) (fun a => a) n (fun _ _ => True) ?_ ?_ sd_fu 0 (by rw [sd_fu_val]; omega) trivial).1
  · rw [itr_bs] at h
    exact h
  · intro f a _
    show F_Mo_ofSide_4B _ x a (nI n) I = _
    unfold F_Mo_ofSide_4B
    rw [hn, if_pos (Int32.le_refl _)]
  · intro f j a hj _
    refine ⟨trivial, ?_⟩
    show F_Mo_ofSide_4B (F_Mo_ofSide_4 I f) x a (nI j) I = _
    unfold F_Mo_ofSide_4B
    rw [hn, if_neg (nI_ge hj (by omega)), sn_gu (sn_in' (by omega) (by omega)), nI_clamp (by omega), nI_1]
    by_cases h : I 62 j = x
    · rw [if_neg (sn_nn h), if_pos (decide_eq_true h)]
      rfl
    · rw [if_pos h, if_neg (by simpa using h), or0]
      rfl
/-- A: what a text tells: 0 numbers of singers, of pieces, every; 1 side, 2 part, 3 lowest, 4 highest, 5 skill of a singer; 6 need, 7 length of a row, 8 notes -/
abbrev sA : Type := Nat → Nat → Nat
def wA (A : sA) : Prop := A 0 0 ≤ 14 ∧ A 0 1 ≤ 5 ∧ 1 ≤ A 0 2 ∧ A 0 2 ≤ 9 ∧ (∀ s, s < A 0 0 → A 1 s ≤ 2 ∧ A 2 s ≤ 3 ∧ A 3 s ≤ A 4 s ∧ A 4 s ≤ 48 ∧ A 5 s ≤ 9) ∧
  (∀ r, r < 20 → A 6 r ≤ 4 ∧ (A 6 r = 0 → A 7 r = 0) ∧ (0 < A 6 r → r < 4 * A 0 1 ∧ 1 ≤ A 7 r ∧ A 7 r ≤ 12) ∧ ∀ i, i < A 7 r → A 8 (12 * r + i) ≤ 48)
/-- who could sing a row that is moved up by so many -/
def fu (A : sA) (r : Nat) (u : Int) (s : Nat) : Bool := decide (s < A 0 0) && decide (0 < A 6 r) && decide (A 2 s = r % 4) && (List.range (A 7 r)).all fun i => decide ((A 3 s : Int) ≤ A 8 (12 * r + i) + u) && decide ((A 8 (12 * r + i) : Int) + u ≤ A 4 s)
/-- the model's rows -/
def mA (A : sA) (I : sm_MI) : Prop := I 61 1 = nI (A 0 0) ∧ I 61 2 = nI (A 0 1) ∧ I 61 3 = nI (A 0 2) ∧ (∀ s, s < A 0 0 → I 62 s = nI (A 1 s) ∧ I 63 s = nI (A 2 s) ∧ I 64 s = nI (A 3 s) ∧ I 65 s = nI (A 4 s) ∧ I 66 s = nI (A 5 s)) ∧
  (∀ r, r < 20 → I 67 r = nI (A 6 r) ∧ (0 < A 6 r → I 68 r = nI (A 7 r) ∧ ∀ i, i < A 7 r → I 69 (12 * r + i) = nI (A 8 (12 * r + i))))
theorem mo_within {a b c : Int32} : F_Mo_within a b c = some (if b ≤ a ∧ a ≤ c then 1 else 0) := by
  unfold F_Mo_within
  by_cases h1 : a < b
  · rw [if_pos h1, if_neg (fun z => by have := Int32.not_le.mpr h1; exact this z.1)]
  · rw [if_neg h1]
    by_cases h2 : c < a
    · rw [if_pos h2, if_neg (fun z => by have := Int32.not_le.mpr h2; exact this z.2)]
    · rw [if_neg h2, if_pos ⟨Int32.not_lt.mp h1, Int32.not_lt.mp h2⟩]
/-- a number that is moved -/
theorem sn_ai {a : Nat} {x : Int32} (ha : a ≤ 1000) (hx : -1000 ≤ x.toInt ∧ x.toInt ≤ 1000) : (nI a + x).toInt = a + x.toInt := by
  rw [Int32.toInt_add, nI_toInt (by omega)]
  rw [Int.bmod_eq_of_le] <;> omega
theorem mo_hasAll {A : sA} {I : sm_MI} (hw : wA A) (hm : mA A I) {s r : Nat} {u : Int32} (hs : s < A 0 0) (hr : r < 20) (hq : 0 < A 6 r) (hu : -1000 ≤ u.toInt ∧ u.toInt ≤ 1000) :
    F_Mo_hasAll (nI s) (nI r) u I = some (if ((List.range (A 7 r)).all fun i => decide ((A 3 s : Int) ≤ A 8 (12 * r + i) + u.toInt) && decide ((A 8 (12 * r + i) : Int) + u.toInt ≤ A 4 s)) then 1 else 0) := by
  obtain ⟨w1, w2, w3, w4, w5, w6⟩ := hw
  obtain ⟨m1, m2, m3, m4, m5⟩ := hm
  obtain ⟨q1, q2⟩ := m5 r hr
  obtain ⟨q3, q4⟩ := q2 hq
  obtain ⟨v1, v2, v3, v4⟩ := w6 r hr
  obtain ⟨v5, v6, v7⟩ := v3 hq
  obtain ⟨-, -, e3, e4, -⟩ := m4 s hs
  obtain ⟨-, -, f3, f4, -⟩ := w5 s hs
  let c : Nat → Bool := fun i => decide ((A 3 s : Int) ≤ A 8 (12 * r + i) + u.toInt) && decide ((A 8 (12 * r + i) : Int) + u.toInt ≤ A 4 s)
  have h := lp_gen (fun f j (_ : Unit) => F_Mo_hasAll_2 I f (nI s) (nI r) u j) (fun j a => if c j then .inl a else .inr (0 : Int32)) (fun _ => 1) (A 7 r) (fun _ _ => True) ?_ ?_ (A 7 r) 0 sd_fu () (by omega) (by rw [sd_fu_val]; omega) trivial
  · have key : ∀ m j, j + m = A 7 r → (∀ i, i < j → c i = true) → lpr (fun j (a : Unit) => if c j then .inl a else .inr (0 : Int32)) (fun _ => 1) m j () = if (List.range (A 7 r)).all c then 1 else 0 := by
      intro m
      induction m with
      | zero =>
        intro j hj hall
        rw [lpr, if_pos]
        rw [List.all_eq_true]
        intro i hi
        exact hall i (by have := List.mem_range.mp hi; omega)
      | succ m ih =>
        intro j hj hall
        rw [lpr]
        by_cases hc : c j = true
        · rw [if_pos hc]
          exact ih (j + 1) (by omega) (fun i hi => by
            by_cases e : i = j
            · subst e; exact hc
            · exact hall i (by omega))
        · rw [if_neg hc, if_neg]
          intro z
          exact hc (List.all_eq_true.mp z j (List.mem_range.mpr (by omega)))
    rw [key _ _ (by omega) (fun i hi => absurd hi (by omega))] at h
    exact h
  · intro f a _
    show F_Mo_hasAll_2B _ (nI s) (nI r) u (nI (A 7 r)) I = _
    unfold F_Mo_hasAll_2B
    rw [sn_gu (sn_in' hr (by omega)), nI_clamp (by omega), q3, if_pos (Int32.le_refl _)]
  · intro f j a hj _
    have hc : F_Mo_hasAll_2 I (f + 1) (nI s) (nI r) u (nI j) = if c j then F_Mo_hasAll_2 I f (nI s) (nI r) u (nI (j + 1)) else some 0 := by
      show F_Mo_hasAll_2B (F_Mo_hasAll_2 I f) (nI s) (nI r) u (nI j) I = _
      unfold F_Mo_hasAll_2B
      rw [sn_gu (sn_in' hr (by omega)), nI_clamp (show r < 2 ^ 31 by omega), q3, if_neg (nI_ge hj (by omega)), show (12 : Int32) * nI r + nI j = nI (12 * r + j) from by rw [show (12 : Int32) = nI 12 from rfl, sn_mul, nI_add],
        sn_gu (sn_in' (by omega) (by omega)), sn_gu (sn_in' (by omega) (by omega)), sn_gu (sn_in' (by omega) (by omega)), nI_clamp (by omega), nI_clamp (by omega), q4 j hj, e3, e4, mo_within, nI_1]
      have hv := v4 j hj
      have t1 : nI (A 3 s) ≤ nI (A 8 (12 * r + j)) + u ∧ nI (A 8 (12 * r + j)) + u ≤ nI (A 4 s) ↔ c j = true := by
        rw [Int32.le_iff_toInt_le, Int32.le_iff_toInt_le, sn_ai (by omega) hu, nI_toInt (by omega), nI_toInt (by omega)]
        simp only [c, Bool.and_eq_true, decide_eq_true_eq]
      show (if ¬ (if nI (A 3 s) ≤ nI (A 8 (12 * r + j)) + u ∧ nI (A 8 (12 * r + j)) + u ≤ nI (A 4 s) then (1 : Int32) else 0) = 0 then F_Mo_hasAll_2 I f (nI s) (nI r) u (nI (j + 1)) else some 0) = _
      by_cases hh : c j = true
      · rw [if_pos (t1.mpr hh), if_pos hh, if_pos (by decide)]
      · rw [if_neg (fun z => hh (t1.mp z)), if_neg hh, if_neg (by decide)]
    refine ⟨fun a' e => ⟨trivial, ?_⟩, fun z e => ?_⟩
    · rw [hc]
      by_cases hh : c j = true
      · rw [if_pos hh]
      · rw [if_neg hh] at e; cases e
    · rw [hc]
      by_cases hh : c j = true
      · rw [if_pos hh] at e; cases e
      · rw [if_neg hh] at e ⊢; cases e; rfl
