/-! ===== what follows from what is told: the sets ===== -/
section ST
variable {A : sA} {d : Nat} {C : sm_MI}
theorem c_with {x p v : Nat} (h0 : C d 0 = nI (A 0 0)) (hA : A 0 0 ≤ 14) (hp : ∀ s, s < A 0 0 → C p s = nI (A x s) ∧ A x s < 100) (hv : v < 100) : F_Valley_withValue d p (nI v) C = some (bs (fun s => decide (A x s = v)) (A 0 0)) := by
  have h := (lp_it (fun f j a => F_Valley_withValue_4 d p C f (nI v) a j) (fun j a => if decide (A x j = v) then a ||| b1 j else a) (fun a => a) (A 0 0) (fun _ _ => True) ?_ ?_ sd_fu 0 (by rw [sd_fu_val]; omega) trivial).1
  · rw [itr_bs] at h
    exact h
  · intro f a _
    show F_Valley_withValue_4B d p (F_Valley_withValue_4 d p C f) (nI v) a (nI (A 0 0)) C = _
    unfold F_Valley_withValue_4B
    rw [h0, if_pos (Int32.le_refl _)]
  · intro f j a hj _
    refine ⟨trivial, ?_⟩
    show F_Valley_withValue_4B d p (F_Valley_withValue_4 d p C f) (nI v) a (nI j) C = F_Valley_withValue_4 d p C f (nI v) (if decide (A x j = v) then a ||| b1 j else a) (nI (j + 1))
    unfold F_Valley_withValue_4B
    rw [h0, if_neg (nI_ge hj (by omega)), if_neg (show ¬ (14 : Int32) ≤ nI j from nI_ge (b := 14) (by omega) (by omega)), sn_gu (sn_in' (by omega) (by omega)), nI_clamp (by omega), (hp j hj).1, nI_1]
    by_cases e : A x j = v
    · rw [if_neg (sn_nn (show nI (A x j) = nI v by rw [e])), decide_eq_true e]; rfl
    · rw [if_pos (show ¬ nI (A x j) = nI v from fun z => e ((nI_eq (by have := (hp j hj).2; omega) (by omega)).mp z)), decide_eq_false e]; rfl
theorem c_minN {x y : Nat} (hx : x < 1000) (hy : y < 1000) : F_Math_min (nI x) (nI y) = some (nI (if y < x then y else x)) := by
  unfold F_Math_min
  by_cases h : y < x
  · rw [if_pos h, if_pos (nI_lt h (by omega))]
  · rw [if_neg h, if_neg (nI_nlt (by omega) (by omega))]
theorem c_maxN {x y : Nat} (hx : x < 1000) (hy : y < 1000) : F_Math_max (nI x) (nI y) = some (nI (if x < y then y else x)) := by
  unfold F_Math_max
  by_cases h : x < y
  · rw [if_pos h, if_pos (nI_lt h (by omega))]
  · rw [if_neg h, if_neg (nI_nlt (by omega) (by omega))]
/-- a row's lowest and highest note so far -/
def spn (A : sA) (d r i : Nat) (C C' : sm_MI) : Prop := (∀ j, j ≠ d + 9 → j ≠ d + 10 → C' j = C j) ∧ (∀ x, x ≠ r → C' (d + 9) x = C (d + 9) x ∧ C' (d + 10) x = C (d + 10) x) ∧
  ∃ lo hi, (C' (d + 9) r = nI lo ∧ C' (d + 10) r = nI hi ∧ lo ≤ 48 ∧ hi ≤ 48) ∧ (i = 0 → lo = 48 ∧ hi = 0) ∧ (∀ j, j < i → lo ≤ A 8 (12 * r + j) ∧ A 8 (12 * r + j) ≤ hi) ∧ (0 < i → (∃ j, j < i ∧ A 8 (12 * r + j) = lo) ∧ ∃ j, j < i ∧ A 8 (12 * r + j) = hi)
theorem c_span {r : Nat} (hr : r < 20) (h7 : C (d + 7) r = nI (A 7 r)) (hl : A 7 r ≤ 12) (hn : ∀ i, i < A 7 r → C (d + 8) (12 * r + i) = nI (A 8 (12 * r + i)) ∧ A 8 (12 * r + i) ≤ 48) : ∃ C', F_Valley_spanRow d (nI r) C = some C' ∧ spn A d r (A 7 r) C C' := by
  unfold F_Valley_spanRow
  rw [sn_gu (sn_in' hr (by omega)), nI_clamp (by omega), y_lt, sn_gu (sn_in' hr (by omega)), y_lt]
  refine lp_R (fun f j C => F_Valley_spanRow_12 d f (nI r) j C) (fun i C' => spn A d r i C C') (fun C' => spn A d r (A 7 r) C C') (A 7 r) _ ?_ (by omega) ?_ ?_
  · refine ⟨fun j h1 h2 => by rw [up_n h2, up_n h1], fun x hx => ⟨?_, ?_⟩, 48, 0, ⟨?_, up_s, by omega, by omega⟩, fun _ => ⟨rfl, rfl⟩, fun j hj => absurd hj (by omega), fun z => absurd z (by omega)⟩
    · rw [up_n (by omega), up_m hx]
    · rw [up_m hx, up_n (by omega)]
    · rw [up_n (by omega)]; exact up_s
  · intro f C' h
    refine ⟨C', ?_, h⟩
    show F_Valley_spanRow_12B d (F_Valley_spanRow_12 d f) (nI r) (nI (A 7 r)) C' = _
    unfold F_Valley_spanRow_12B
    rw [sn_gu (sn_in' hr (by omega)), nI_clamp (by omega), h.1 (d + 7) (by omega) (by omega), h7, if_pos (Int32.le_refl _)]
  · intro f i C' hi h
    obtain ⟨h1, h2, lo, hi', ⟨h3, h4, h5, h6⟩, h8, h9, h10⟩ := h
    obtain ⟨n1, n2⟩ := hn i hi
    generalize hz : A 8 (12 * r + i) = z at n1 n2
    refine Or.inl ⟨sd_up (sd_up C' (d + 9) r (nI (if z < lo then z else lo))) (d + 10) r (nI (if hi' < z then z else hi')), ⟨fun j j1 j2 => ?_, fun x hx => ⟨?_, ?_⟩, (if z < lo then z else lo), (if hi' < z then z else hi'), ⟨?_, up_s, ?_, ?_⟩, fun y => absurd y (by omega), fun j hj => ?_, fun _ => ⟨?_, ?_⟩⟩, ?_⟩
    · rw [up_n j2, up_n j1]; exact h1 j j1 j2
    · rw [up_n (by omega), up_m hx]; exact (h2 x hx).1
    · rw [up_m hx, up_n (by omega)]; exact (h2 x hx).2
    · rw [up_n (by omega)]; exact up_s
    · split <;> omega
    · split <;> omega
    · by_cases e : j = i
      · subst e; rw [hz]; exact ⟨by split <;> omega, by split <;> omega⟩
      · have := h9 j (by omega)
        exact ⟨by split <;> omega, by split <;> omega⟩
    · by_cases e : z < lo
      · rw [if_pos e]; exact ⟨i, by omega, hz⟩
      · rw [if_neg e]
        rcases Nat.eq_zero_or_pos i with y | y
        · exact ⟨i, by omega, by have := (h8 y).1; omega⟩
        · obtain ⟨j, j1, j2⟩ := (h10 y).1; exact ⟨j, by omega, j2⟩
    · by_cases e : hi' < z
      · rw [if_pos e]; exact ⟨i, by omega, hz⟩
      · rw [if_neg e]
        rcases Nat.eq_zero_or_pos i with y | y
        · exact ⟨i, by omega, by have := (h8 y).2; omega⟩
        · obtain ⟨j, j1, j2⟩ := (h10 y).2; exact ⟨j, by omega, j2⟩
    · show F_Valley_spanRow_12B d (F_Valley_spanRow_12 d f) (nI r) (nI i) C' = _
      unfold F_Valley_spanRow_12B
      have e10 : sd_up C' (d + 9) r (nI (if z < lo then z else lo)) (d + 10) r = nI hi' := by rw [up_n (by omega)]; exact h4
      rw [sn_gu (sn_in' hr (by omega)), nI_clamp (show r < 2 ^ 31 by omega), h1 (d + 7) (by omega) (by omega), h7, if_neg (nI_ge hi (by omega)), if_neg (show ¬ (12 : Int32) ≤ nI i from nI_ge (b := 12) (by omega) (by omega)), show nI r * 12 + nI i = nI (12 * r + i) from by rw [show (12 : Int32) = nI 12 from rfl, sn_mul, nI_add, Nat.mul_comm], sn_gu (sn_in' (by omega) (by omega)), nI_clamp (by omega), h1 (d + 8) (by omega) (by omega), n1, y_lt, sn_gu (sn_in' hr (by omega)), h3, q1_of (c_minN (by omega) (by omega)), sn_gu (sn_in' hr (by omega)), y_lt, sn_gu (sn_in' hr (by omega)), e10, q1_of (c_maxN (by omega) (by omega)), sn_gu (sn_in' hr (by omega)), y_lt, nI_1]
/-- rows that are settled -/
def stl (A : sA) (d r : Nat) (C C' : sm_MI) : Prop := (∀ j, (j < d + 9 ∨ d + 13 < j) → C' j = C j) ∧ (∀ k, k < 3 → C' (d + 12) k = bs (fun s => decide (A 1 s = k)) (A 0 0)) ∧ (∀ k, k < 4 → C' (d + 13) k = bs (fun s => decide (A 2 s = k)) (A 0 0)) ∧
  (∀ x, x < r → C' (d + 11) x = bs (fu A x 0) 14 ∧ (0 < A 6 x → ∃ lo hi, C' (d + 9) x = nI lo ∧ C' (d + 10) x = nI hi ∧ (∀ i, i < A 7 x → lo ≤ A 8 (12 * x + i) ∧ A 8 (12 * x + i) ≤ hi) ∧ (∃ i, i < A 7 x ∧ A 8 (12 * x + i) = lo) ∧ ∃ i, i < A 7 x ∧ A 8 (12 * x + i) = hi)) ∧ ∀ x, r ≤ x → x < 20 → C' (d + 11) x = 0
theorem c_settle {ev : Bool} (hw : wA A) (h : cdf A ev d C) : ∃ C', F_Valley_settle d C = some C' ∧ cA A d C' ∧ ∀ j, (j < d + 9 ∨ d + 13 < j) → C' j = C j := by
  obtain ⟨⟨c0, c1, c2⟩, c4, c5, c6⟩ := h
  obtain ⟨w1, w2, w3, w4, w5, w6⟩ := hw
  have fin : ∀ C', stl A d 20 C C' → cA A d C' ∧ ∀ j, (j < d + 9 ∨ d + 13 < j) → C' j = C j := by
    rintro C' ⟨s1, s2, s3, s4, -⟩
    refine ⟨⟨?_, ?_, ?_, fun s hs => ?_, fun r hr => ?_, s2, s3⟩, s1⟩
    · rw [s1 d (by omega)]; exact c0
    · rw [s1 d (by omega)]; exact c1
    · rw [s1 d (by omega)]; exact c2
    · rw [s1 (d + 1) (by omega), s1 (d + 2) (by omega), s1 (d + 3) (by omega), s1 (d + 4) (by omega), s1 (d + 5) (by omega)]; exact c4 s hs
    · rw [s1 (d + 6) (by omega), s1 (d + 7) (by omega), s1 (d + 8) (by omega)]
      obtain ⟨t1, t2, t3, t4⟩ := c5 r hr
      exact ⟨t1, t2, t4, s4 r hr⟩
  have L34 : ∀ C1, stl A d 0 C C1 → ∃ C', F_Valley_settle_34 d sd_fu (nI 0) C1 = some C' ∧ (cA A d C' ∧ ∀ j, (j < d + 9 ∨ d + 13 < j) → C' j = C j) := by
    intro C1 hC1
    refine lp_R (fun f j C => F_Valley_settle_34 d f j C) (fun r C' => stl A d r C C') _ 20 _ hC1 (by omega) ?_ ?_
    · intro f C' h
      refine ⟨C', ?_, fin C' h⟩
      show F_Valley_settle_34B d (F_Valley_settle_34 d f) (nI 20) C' = _
      unfold F_Valley_settle_34B
      rw [if_pos (show (20 : Int32) ≤ nI 20 by decide)]
    · intro f r C' hr h
      obtain ⟨s1, s2, s3, s4, s5⟩ := h
      obtain ⟨t1, t2, t3, t4⟩ := c5 r hr
      obtain ⟨x1, x2, x3, x4⟩ := w6 r hr
      have e6 : C' (d + 6) r = nI (A 6 r) := by rw [s1 (d + 6) (by omega)]; exact t1
      refine Or.inl ?_
      show ∃ a', _ ∧ F_Valley_settle_34B d (F_Valley_settle_34 d f) (nI r) C' = _
      unfold F_Valley_settle_34B
      rw [if_neg (show ¬ (20 : Int32) ≤ nI r from nI_ge (b := 20) hr (by omega)), sn_gu (sn_in' hr (by omega)), nI_clamp (show r < 2 ^ 31 by omega), e6]
      by_cases e : A 6 r = 0
      · refine ⟨C', ⟨s1, s2, s3, fun x hx => ?_, fun x h1 h2 => s5 x (by omega) h2⟩, by rw [if_pos (show nI (A 6 r) ≤ 0 by rw [e]; decide), nI_1]⟩
        by_cases z : x = r
        · subst z
          refine ⟨?_, fun y => absurd y (by omega)⟩
          rw [s5 x (by omega) hr, bs_false (fun i _ => fu_0 e)]
        · exact s4 x (by omega)
      · obtain ⟨C2, v1, v2, v3, lo, hi, ⟨v4, v5, v6, v7⟩, -, v8, v9⟩ := c_span (A := A) (d := d) (C := C') hr (by rw [s1 (d + 7) (by omega)]; exact t2) (by have := (x3 (by omega)).2.2; omega) (fun i hi => ⟨by rw [s1 (d + 8) (by omega)]; exact t4 i hi, x4 i hi⟩)
        have l1 := x3 (by omega)
        obtain ⟨v9, v10⟩ := v9 (by omega)
        have ep : C2 (d + 13) (r % 4) = bs (fun s => decide (A 2 s = r % 4)) (A 0 0) := by rw [v2 (d + 13) (by omega) (by omega)]; exact s3 _ (by omega)
        have er : F_Valley_reaching d (C2 (d + 13) (r % 4)) (nI lo) (nI hi) C2 = some (bs (fu A r 0) 14) := by
          rw [c_reaching (A := A), ep, v2 (d + 3) (by omega) (by omega), v2 (d + 4) (by omega) (by omega), s1 (d + 3) (by omega), s1 (d + 4) (by omega)]
          congr 1
          apply b_ext14 (lo14_bs (by omega)) (lo14_bs (by omega))
          intro i hi14
          rw [bt_bs (by omega) (by omega), bt_bs (by omega) (by omega), bt_bs (by omega) (by omega), decide_eq_true hi14, Bool.true_and, Bool.true_and]
          by_cases hs : i < A 0 0
          · have w := w5 i hs
            rw [(c4 i hs).2.2.1, (c4 i hs).2.2.2.1, decide_eq_true hs, Bool.true_and]
            unfold fu
            rw [decide_eq_true hs, decide_eq_true (show 0 < A 6 r by omega), Bool.true_and, Bool.true_and, Bool.and_assoc]
            congr 1
            rw [Bool.eq_iff_iff, List.all_eq_true]
            simp only [Bool.and_eq_true, decide_eq_true_eq, List.mem_range]
            constructor
            · rintro ⟨y1, y2⟩ j hj
              have z1 := (show A 3 i ≤ lo from Nat.le_of_not_lt (fun y => nI_ge y (by omega) y1))
              have z2 := (show hi ≤ A 4 i from Nat.le_of_not_lt (fun y => nI_ge y (by omega) y2))
              have := v8 j hj
              omega
            · intro y
              obtain ⟨j1, k1, k2⟩ := v9
              obtain ⟨j2, k3, k4⟩ := v10
              have y1 := (y j1 k1).1
              have y2 := (y j2 k3).2
              exact ⟨nI_le (by omega) (by omega), nI_le (by omega) (by omega)⟩
          · have : fu A r 0 i = false := by unfold fu; rw [decide_eq_false hs]; rfl
            rw [this, decide_eq_false hs]; rfl
        refine ⟨sd_up C2 (d + 11) r (bs (fu A r 0) 14), ⟨fun j hj => ?_, fun k hk => ?_, fun k hk => ?_, fun x hx => ?_, fun x h1 h2 => ?_⟩, ?_⟩
        · rw [up_n (by omega), v2 j (by omega) (by omega)]; exact s1 j hj
        · rw [up_n (by omega), v2 _ (by omega) (by omega)]; exact s2 k hk
        · rw [up_n (by omega), v2 _ (by omega) (by omega)]; exact s3 k hk
        · rw [up_n (show d + 9 ≠ d + 11 by omega), up_n (show d + 10 ≠ d + 11 by omega)]
          by_cases z : x = r
          · subst z
            exact ⟨up_s, fun _ => ⟨lo, hi, v4, v5, v8, v9, v10⟩⟩
          · rw [up_m z, v2 (d + 11) (by omega) (by omega), (v3 x z).1, (v3 x z).2]
            exact s4 x (by omega)
        · rw [up_m (by omega), v2 (d + 11) (by omega) (by omega)]; exact s5 x (by omega) h2
        · rw [if_neg (nI_nle (by omega) (by omega)), q1_of v1, sn_gu (show ¬ (4 : Int32) = 0 by decide), show sd_mod (nI r) 4 = nI (r % 4) from sn_mod (b := 4) (by omega) (by omega) (by omega), sn_gu (sn_in' (by omega) (by omega)), sn_gu (sn_in' hr (by omega)), sn_gu (sn_in' hr (by omega)), nI_clamp (by omega), v4, v5, q1_of er, sn_gu (sn_in' hr (by omega)), y_lt, nI_1]
  have L18 : ∀ C1, (∀ j, (j < d + 12 ∨ d + 13 < j) → C1 j = C j) → (∀ k, k < 3 → C1 (d + 12) k = bs (fun s => decide (A 1 s = k)) (A 0 0)) → ∃ C', F_Valley_settle_18 d sd_fu (nI 0) C1 = some C' ∧ (cA A d C' ∧ ∀ j, (j < d + 9 ∨ d + 13 < j) → C' j = C j) := by
    intro C1 hj h3
    refine lp_R (fun f j C => F_Valley_settle_18 d f j C) (fun r C' => (∀ j, (j < d + 12 ∨ d + 13 < j) → C' j = C j) ∧ (∀ k, k < 3 → C' (d + 12) k = bs (fun s => decide (A 1 s = k)) (A 0 0)) ∧ ∀ k, k < r → C' (d + 13) k = bs (fun s => decide (A 2 s = k)) (A 0 0)) _ 4 _ ⟨hj, h3, fun k hk => absurd hk (by omega)⟩ (by omega) ?_ ?_
    · rintro f C' ⟨g1, g2, g3⟩
      obtain ⟨C2, e1, e2⟩ := L34 C' ⟨fun j hj => g1 j (by omega), g2, g3, fun x hx => absurd hx (by omega), fun x h1 h2 => by rw [g1 (d + 11) (by omega)]; exact (c5 x h2).2.2.1⟩
      refine ⟨C2, ?_, e2⟩
      show F_Valley_settle_18B d (F_Valley_settle_18 d f) (nI 4) C' = _
      unfold F_Valley_settle_18B
      rw [if_pos (show (4 : Int32) ≤ nI 4 by decide)]
      exact e1
    · rintro f r C' hr ⟨g1, g2, g3⟩
      refine Or.inl ⟨sd_up C' (d + 13) r (bs (fun s => decide (A 2 s = r)) (A 0 0)), ⟨fun j hj => ?_, fun k hk => ?_, fun k hk => ?_⟩, ?_⟩
      · rw [up_n (by omega)]; exact g1 j hj
      · rw [up_n (by omega)]; exact g2 k hk
      · by_cases z : k = r
        · subst z; exact up_s
        · rw [up_m z]; exact g3 k (by omega)
      · show F_Valley_settle_18B d (F_Valley_settle_18 d f) (nI r) C' = _
        unfold F_Valley_settle_18B
        rw [if_neg (show ¬ (4 : Int32) ≤ nI r from nI_ge (b := 4) hr (by omega)), q1_of (c_with (A := A) (x := 2) (by rw [g1 d (by omega)]; exact c0) w1 (fun s hs => ⟨by rw [g1 (d + 2) (by omega)]; exact (c4 s hs).2.1, by have := w5 s hs; omega⟩) (by omega)), sn_gu (sn_in' hr (by omega)), nI_clamp (by omega), y_lt, nI_1]
  refine lp_R (fun f j C => F_Valley_settle_2 d f j C) (fun r C' => (∀ j, (j < d + 12 ∨ d + 13 < j) → C' j = C j) ∧ ∀ k, k < r → C' (d + 12) k = bs (fun s => decide (A 1 s = k)) (A 0 0)) _ 3 _ ⟨fun _ _ => rfl, fun k hk => absurd hk (by omega)⟩ (by omega) ?_ ?_
  · rintro f C' ⟨g1, g2⟩
    obtain ⟨C2, e1, e2⟩ := L18 C' g1 g2
    refine ⟨C2, ?_, e2⟩
    show F_Valley_settle_2B d (F_Valley_settle_2 d f) (nI 3) C' = _
    unfold F_Valley_settle_2B
    rw [if_pos (show (3 : Int32) ≤ nI 3 by decide)]
    exact e1
  · rintro f r C' hr ⟨g1, g2⟩
    refine Or.inl ⟨sd_up C' (d + 12) r (bs (fun s => decide (A 1 s = r)) (A 0 0)), ⟨fun j hj => ?_, fun k hk => ?_⟩, ?_⟩
    · rw [up_n (by omega)]; exact g1 j hj
    · by_cases z : k = r
      · subst z; exact up_s
      · rw [up_m z]; exact g2 k (by omega)
    · show F_Valley_settle_2B d (F_Valley_settle_2 d f) (nI r) C' = _
      unfold F_Valley_settle_2B
      rw [if_neg (show ¬ (3 : Int32) ≤ nI r from nI_ge (b := 3) hr (by omega)), q1_of (c_with (A := A) (x := 1) (by rw [g1 d (by omega)]; exact c0) w1 (fun s hs => ⟨by rw [g1 (d + 1) (by omega)]; exact (c4 s hs).1, by have := w5 s hs; omega⟩) (by omega)), sn_gu (sn_in' hr (by omega)), nI_clamp (by omega), y_lt, nI_1]
end ST
