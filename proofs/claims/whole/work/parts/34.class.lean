/-! ===== the class's valley ===== -/
def cA (A : sA) (t : Nat) (I : sm_MI) : Prop := I t 0 = nI (A 0 0) ∧ I t 1 = nI (A 0 1) ∧ I t 2 = nI (A 0 2) ∧
  (∀ s, s < A 0 0 → I (t + 1) s = nI (A 1 s) ∧ I (t + 2) s = nI (A 2 s) ∧ I (t + 3) s = nI (A 3 s) ∧ I (t + 4) s = nI (A 4 s) ∧ I (t + 5) s = nI (A 5 s)) ∧
  (∀ r, r < 20 → I (t + 6) r = nI (A 6 r) ∧ I (t + 7) r = nI (A 7 r) ∧ (∀ i, i < A 7 r → I (t + 8) (12 * r + i) = nI (A 8 (12 * r + i))) ∧ I (t + 11) r = bs (fu A r 0) 14 ∧
    (0 < A 6 r → ∃ lo hi, I (t + 9) r = nI lo ∧ I (t + 10) r = nI hi ∧ (∀ i, i < A 7 r → lo ≤ A 8 (12 * r + i) ∧ A 8 (12 * r + i) ≤ hi) ∧ (∃ i, i < A 7 r ∧ A 8 (12 * r + i) = lo) ∧ ∃ i, i < A 7 r ∧ A 8 (12 * r + i) = hi)) ∧
  (∀ k, k < 3 → I (t + 12) k = bs (fun s => decide (A 1 s = k)) (A 0 0)) ∧ (∀ k, k < 4 → I (t + 13) k = bs (fun s => decide (A 2 s = k)) (A 0 0))
theorem cA_same {A : sA} {t : Nat} {I I' : sm_MI} (h : cA A t I) (hk : ∀ k, k < 14 → I' (t + k) = I (t + k)) : cA A t I' := by
  have e0 := hk 0 (by omega)
  rw [Nat.add_zero] at e0
  unfold cA at h ⊢
  rw [e0, hk 1 (by omega), hk 2 (by omega), hk 3 (by omega), hk 4 (by omega), hk 5 (by omega), hk 6 (by omega), hk 7 (by omega), hk 8 (by omega), hk 9 (by omega), hk 10 (by omega), hk 11 (by omega), hk 12 (by omega), hk 13 (by omega)]
  exact h
theorem ab_fit {A : sA} {t r : Nat} {I : sm_MI} {x : Int32} (h : cA A t I) (hr : r < 20) : I (t + 11) r &&& x = ab A x r 0 := by
  rw [(h.2.2.2.2.1 r hr).2.2.2.1]
  apply b_ext14 (lo14_and (lo14_bs (by omega))) lo14_ab
  intro i hi
  rw [b_and, bt_bs (by omega) (by omega), decide_eq_true hi, Bool.true_and, bt_ab hi, Bool.and_comm]
theorem nar1 : vp_nar .boolean 1 = 1 := by decide +kernel
theorem nar0 : vp_nar .boolean 0 = 0 := by decide +kernel
theorem nar_if {c : Prop} [Decidable c] : vp_nar .boolean (if c then 1 else 0) = if c then 1 else 0 := by
  split
  · exact nar1
  · exact nar0
theorem lpr_cs {z b : Nat → Bool} (hzb : ∀ i, z i = true → b i = true) : ∀ {m j : Nat} {a : Bool}, lpr (fun i (a : Int32) => if z i then .inl a else if b i then .inl 1 else .inr 0) (fun a => vp_nar .boolean a) m j (if a then 1 else 0) = if al b m j && (a || !al z m j) then 1 else 0
  | 0, j, a => by
    rw [lpr, nar_if, al, al]
    cases a <;> rfl
  | m + 1, j, a => by
    rw [lpr, al, al]
    cases hz : z j
    · cases hb : b j
      · rfl
      · have := lpr_cs hzb (m := m) (j := j + 1) (a := true)
        rw [if_pos rfl] at this
        show lpr _ _ m (j + 1) 1 = _
        rw [this]
        simp
    · rw [hzb j hz, if_pos rfl]
      have := lpr_cs hzb (m := m) (j := j + 1) (a := a)
      show lpr _ _ m (j + 1) _ = _
      rw [this]
      simp
theorem c_canBeSung {A : sA} {t : Nat} {I : sm_MI} (hw : wA A) (hc : cA A t I) {p : Nat} {x : Int32} (hp : p < 5) : F_Valley_canBeSung t (nI p) x I = some (if cs A x p 0 then 1 else 0) := by
  have h := lp_gen (fun f j a => F_Valley_canBeSung_4 t I f (nI p) x a j) (fun j a => if decide (A 6 (4 * p + j) = 0) then .inl a else if decide (A 6 (4 * p + j) ≤ pc (ab A x (4 * p + j) 0)) then .inl 1 else .inr (0 : Int32)) (fun a => vp_nar .boolean a) 4 (fun _ _ => True) ?_ ?_ 4 0 sd_fu 0 (by omega) (by rw [sd_fu_val]; omega) trivial
  · have e := lpr_cs (z := fun j => decide (A 6 (4 * p + j) = 0)) (b := fun j => decide (A 6 (4 * p + j) ≤ pc (ab A x (4 * p + j) 0))) (fun i hi => by rw [decide_eq_true_eq] at hi ⊢; omega) (m := 4) (j := 0) (a := false)
    rw [if_neg (by decide)] at e
    rw [e, al_shift (p := fun r => decide (A 6 r ≤ pc (ab A x r 0))), al_shift (p := fun r => decide (A 6 r = 0)), Nat.add_zero] at h
    have e2 : F_Valley_canBeSung t (nI p) x I = F_Valley_canBeSung_4 t I sd_fu (nI p) x 0 (nI 0) := rfl
    rw [e2, h]
    unfold cs nr
    rw [Bool.false_or, Bool.and_comm]
  · intro f a _
    show F_Valley_canBeSung_4B t (F_Valley_canBeSung_4 t I f) (nI p) x a (nI 4) I = _
    unfold F_Valley_canBeSung_4B
    rw [if_pos (show (4 : Int32) ≤ nI 4 from Int32.le_refl _)]
  · intro f j a hj _
    have hr : 4 * p + j < 20 := by omega
    obtain ⟨q1, q2, q3, q4, q5⟩ := hc.2.2.2.2.1 (4 * p + j) hr
    have hn := (hw.2.2.2.2.2 (4 * p + j) hr).1
    have hpc := pc_le (ab A x (4 * p + j) 0)
    have hs : F_Valley_canBeSung_4 t I (f + 1) (nI p) x a (nI j) = if decide (A 6 (4 * p + j) = 0) then F_Valley_canBeSung_4 t I f (nI p) x a (nI (j + 1)) else if decide (A 6 (4 * p + j) ≤ pc (ab A x (4 * p + j) 0)) then F_Valley_canBeSung_4 t I f (nI p) x 1 (nI (j + 1)) else some 0 := by
      show F_Valley_canBeSung_4B t (F_Valley_canBeSung_4 t I f) (nI p) x a (nI j) I = _
      unfold F_Valley_canBeSung_4B
      rw [if_neg (show ¬ (4 : Int32) ≤ nI j from nI_ge (b := 4) hj (by omega)), sn_lt, show nI p * 4 + nI j = nI (4 * p + j) from by rw [show (4 : Int32) = nI 4 from rfl, sn_mul, nI_add, Nat.mul_comm],
        sn_gu (sn_in' hr (by omega)), nI_clamp (by omega), q1, nI_1]
      by_cases h0 : A 6 (4 * p + j) = 0
      · rw [h0, if_pos (show nI 0 ≤ 0 by decide), if_pos (by decide)]
      · rw [if_neg (nI_nle (by omega) (by omega)), if_neg (by simpa using h0), sn_gu (sn_in' hr (by omega)), ab_fit hc hr, int_bc lo14_ab, sn_q1, sn_gu (sn_in' hr (by omega))]
        by_cases h1 : A 6 (4 * p + j) ≤ pc (ab A x (4 * p + j) 0)
        · rw [if_pos (nI_le h1 (by omega)), if_pos (decide_eq_true h1)]
        · rw [if_neg (nI_ge (by omega) (by omega)), if_neg (by simpa using h1)]
    refine ⟨fun a' e => ⟨trivial, ?_⟩, fun z e => ?_⟩
    · rw [hs]
      split at e
      · rename_i hh; cases e; rw [if_pos hh]
      · rename_i hh
        rw [if_neg hh]
        split at e
        · rename_i h2; cases e; rw [if_pos h2]
        · cases e
    · rw [hs]
      split at e
      · cases e
      · rename_i hh
        rw [if_neg hh]
        split at e
        · cases e
        · rename_i h2; cases e; rw [if_neg h2]
theorem c_singable {A : sA} {t : Nat} {I : sm_MI} (hw : wA A) (hc : cA A t I) {x : Int32} : F_Valley_singable t x I = some (sg A x) := by
  have h := (lp_it (fun f j a => F_Valley_singable_4 t I f x a j) (fun j a => if cs A x j 0 then a ||| b1 j else a) (fun a => a) 5 (fun _ _ => True) ?_ ?_ sd_fu 0 (by rw [sd_fu_val]; omega) trivial).1
  · rw [itr_bs] at h
    exact h
  · intro f a _
    show F_Valley_singable_4B t (F_Valley_singable_4 t I f) x a (nI 5) I = _
    unfold F_Valley_singable_4B
    rw [if_pos (show (5 : Int32) ≤ nI 5 from Int32.le_refl _)]
  · intro f j a hj _
    refine ⟨trivial, ?_⟩
    show F_Valley_singable_4B t (F_Valley_singable_4 t I f) x a (nI j) I = F_Valley_singable_4 t I f x (if cs A x j 0 then a ||| b1 j else a) (nI (j + 1))
    unfold F_Valley_singable_4B
    rw [if_neg (show ¬ (5 : Int32) ≤ nI j from nI_ge (b := 5) hj (by omega)), c_canBeSung hw hc hj, sn_q1, nI_1]
    cases cs A x j 0
    · rfl
    · rfl
/-- a set of those whose range holds a span -/
theorem c_reaching {A : sA} {t : Nat} {I : sm_MI} {x lo hi : Int32} : F_Valley_reaching t x lo hi I = some (bs (fun s => bt x s && decide (I (t + 3) s ≤ lo) && decide (hi ≤ I (t + 4) s)) 14) := by
  have h := (lp_it (fun f j a => F_Valley_reaching_4 t I f x lo hi a j) (fun j a => if (bt x j && decide (I (t + 3) j ≤ lo) && decide (hi ≤ I (t + 4) j)) then a ||| b1 j else a) (fun a => a) 14 (fun _ _ => True) ?_ ?_ sd_fu 0 (by rw [sd_fu_val]; omega) trivial).1
  · rw [itr_bs] at h
    exact h
  · intro f a _
    show F_Valley_reaching_4B t (F_Valley_reaching_4 t I f) x lo hi a (nI 14) I = _
    unfold F_Valley_reaching_4B
    rw [if_pos (show (14 : Int32) ≤ nI 14 from Int32.le_refl _)]
  · intro f j a hj _
    refine ⟨trivial, ?_⟩
    show F_Valley_reaching_4B t (F_Valley_reaching_4 t I f) x lo hi a (nI j) I = F_Valley_reaching_4 t I f x lo hi (if (bt x j && decide (I (t + 3) j ≤ lo) && decide (hi ≤ I (t + 4) j)) then a ||| b1 j else a) (nI (j + 1))
    unfold F_Valley_reaching_4B
    rw [if_neg (show ¬ (14 : Int32) ≤ nI j from nI_ge (b := 14) hj (by omega)), nI_1]
    by_cases hb : bt x j = true
    · rw [if_neg (fun z => by rw [(bt_t0 x (by omega)).mp z] at hb; cases hb), sn_gu (sn_in' hj (by omega)), nI_clamp (by omega), hb]
      by_cases h1 : lo < I (t + 3) j
      · rw [if_pos h1, decide_eq_false (Int32.not_le.mpr h1)]
        rfl
      · rw [if_neg h1, sn_gu (sn_in' hj (by omega)), decide_eq_true (Int32.not_lt.mp h1)]
        by_cases h2 : I (t + 4) j < hi
        · rw [if_pos h2, decide_eq_false (Int32.not_le.mpr h2)]
          rfl
        · rw [if_neg h2, decide_eq_true (Int32.not_lt.mp h2)]
          rfl
    · have hb : bt x j = false := by simpa using hb
      rw [if_pos ((bt_t0 x (by omega)).mpr hb), hb]
      rfl
theorem c_ofSide {A : sA} {t : Nat} {I : sm_MI} (hc : cA A t I) {k : Nat} (hk : k < 3) : F_Valley_ofSide t (nI k) I = some (bs (fun s => decide (A 1 s = k)) (A 0 0)) := by
  unfold F_Valley_ofSide
  rw [if_neg (nI_pos (by omega)), if_neg (show ¬ (3 : Int32) ≤ nI k from nI_ge (b := 3) hk (by omega)), sn_gu (sn_in' hk (by omega)), nI_clamp (by omega), hc.2.2.2.2.2.1 k hk]
theorem c_ofPart {A : sA} {t : Nat} {I : sm_MI} (hc : cA A t I) {k : Nat} (hk : k < 4) : F_Valley_ofPart t (nI k) I = some (bs (fun s => decide (A 2 s = k)) (A 0 0)) := by
  unfold F_Valley_ofPart
  rw [if_neg (nI_pos (by omega)), if_neg (show ¬ (4 : Int32) ≤ nI k from nI_ge (b := 4) hk (by omega)), sn_gu (sn_in' hk (by omega)), nI_clamp (by omega), hc.2.2.2.2.2.2 k hk]
/-- a side's singers -/
def sd (A : sA) (k : Nat) : Int32 := bs (fun s => decide (A 1 s = k)) (A 0 0)
theorem bt_sd {A : sA} (hw : wA A) {k i : Nat} : bt (sd A k) i = (decide (i < A 0 0) && decide (A 1 i = k)) := by
  have := hw.1
  by_cases hi : i < 32
  · unfold sd
    rw [bt_bs hi (by omega)]
  · rw [b_big (by omega), decide_eq_false (by omega)]
    rfl
theorem lo14_sd {A : sA} (hw : wA A) {k : Nat} : lo14 (sd A k) := lo14_bs hw.1
theorem mo_ofSide' {A : sA} {I : sm_MI} (hw : wA A) (hm : mA A I) {k : Nat} (hk : k < 2 ^ 31) : F_Mo_ofSide (nI k) I = some (sd A k) := by
  rw [mo_ofSide hm.1 hw.1]
  unfold sd
  rw [bs_congr]
  intro i hi
  have h1 := hm.2.2.2.1 i hi
  have h2 := hw.2.2.2.2.1 i hi
  rw [h1.1]
  by_cases e : A 1 i = k
  · rw [decide_eq_true e, e, decide_eq_true rfl]
  · rw [decide_eq_false e, decide_eq_false (fun z => e ((nI_eq (by omega) hk).mp z))]
theorem c_lackingIn {A : sA} {t : Nat} {I : sm_MI} (hw : wA A) (hc : cA A t I) {r : Nat} {x : Int32} (hr : r < 20) : F_Valley_lackingIn t (nI r) x I = some (nI (A 6 r - pc (ab A x r 0))) := by
  obtain ⟨q1, q2, q3, q4, q5⟩ := hc.2.2.2.2.1 r hr
  have hn := (hw.2.2.2.2.2 r hr).1
  have hpc := pc_le (ab A x r 0)
  unfold F_Valley_lackingIn
  rw [sn_gu (sn_in' hr (by omega)), sn_gu (sn_in' hr (by omega)), nI_clamp (by omega), ab_fit hc hr, int_bc lo14_ab, sn_q1, q1]
  unfold F_Math_max
  have h : 0 < nI (A 6 r) - nI (pc (ab A x r 0)) ↔ pc (ab A x r 0) < A 6 r := by
    rw [Int32.lt_iff_toInt_lt, Int32.toInt_sub, nI_toInt (by omega), nI_toInt (by omega), show (0 : Int32).toInt = 0 from rfl]
    rw [Int.bmod_eq_of_le (by omega) (by omega)]
    omega
  by_cases h1 : pc (ab A x r 0) < A 6 r
  · rw [if_pos (h.mpr h1), sn_q1, sn_sub (by omega)]
  · rw [if_neg (fun z => h1 (h.mp z)), sn_q1, show A 6 r - pc (ab A x r 0) = 0 by omega]
    rfl
theorem c_isEvening {A : sA} {t : Nat} {I : sm_MI} (hw : wA A) (hc : cA A t I) {x : Int32} : F_Valley_isEvening t x I = some (if sd_mod x (nI (A 0 2)) = 0 then 1 else 0) := by
  have h1 := hw.2.2.1
  have h2 := hw.2.2.2.1
  unfold F_Valley_isEvening
  rw [hc.2.2.1, if_neg (nI_nle h1 (by omega)), sn_gu (nI_ne0 h1 (by omega))]
  by_cases h : sd_mod x (nI (A 0 2)) = 0
  · rw [if_neg (sn_nn h), if_pos h]
  · rw [if_pos h, if_neg h]
