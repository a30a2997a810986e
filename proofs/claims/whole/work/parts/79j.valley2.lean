/-! ===== valley, both ===== -/
section VB
variable {b : Nat → Nat} {n t d : Nat} {A : sA} {R : Nat → List Nat} {C C' M M' : sm_MI} {J J' : sm_MJ}
theorem chR_M {p : Nat} {nw ah he nw' ah' he' : Nat → Int32} {a h a' h' : Int32} (hc : chR A C p nw ah he a h) (e1 : nw' = nw) (e2 : ah' = ah) (e3 : he' = he) (e4 : a' = a) (e5 : h' = h) : chR A C p nw' ah' he' a' h' := by
  subst e1 e2 e3 e4 e5
  exact hc
theorem tks_41 {x : Int32} (h : tks b n C) : tks b n (sd_up C 4 1 x) := by
  obtain ⟨⟨t1, t2, t3⟩, m, t4, t5, t6, t7⟩ := h
  refine ⟨⟨t1, by rw [up_m (by omega)]; exact t2, fun j hj => by rw [up_n (by omega)]; exact t3 j hj⟩, m, t4, by rw [up_m (by omega)]; exact t5, t6, fun k hk => by rw [up_n (by omega), up_n (by omega)]; exact t7 k hk⟩
theorem bytes_of {f : Nat} (h : ∀ j, j < f → ∃ b, b < 256 ∧ C 5 j = nI b ∧ M 72 j = nI b) : ∃ b : Nat → Nat, ∀ j, j < f → b j < 256 ∧ C 5 j = nI (b j) ∧ M 72 j = nI (b j) := by
  refine ⟨fun j => if hj : j < f then Classical.choose (h j hj) else 0, fun j hj => ?_⟩
  have := Classical.choose_spec (h j hj)
  simp only [dif_pos hj]
  exact this
theorem x_valley (h : Rel A R t C M) (hd : (t = 21 ∧ d = 41) ∨ (t = 41 ∧ d = 21)) (x : Int32) : ∃ r s C' v M' J', F_VM_valley d x C = some (r, (s, C')) ∧ F_Mo_valley x M J = some (v, M', J') ∧ ((∀ k, 61 ≤ k → C' k = C k) ∧ (∀ k, k < 61 → M' k = M k) ∧ jsm J J') ∧
    (match r with
    | .inl w => v = w ∧ M' 61 0 = 0
    | .inr E => E = 0 ∧ M' 61 0 = 1) ∧ ∃ A' R', Rel A' R' (if s then d else t) C' M' := by
  obtain ⟨M1, hM1, h0, h1, hs1⟩ := h.start
  obtain ⟨f, hf, c41, m15, hb⟩ := h1.2.2.2.2.2.1
  have bad : (x < 0 ∨ nI (f + 1) ≤ x) → ∃ r s C' v M' J', F_VM_valley d x C = some (r, (s, C')) ∧ F_Mo_valley x M J = some (v, M', J') ∧ ((∀ k, 61 ≤ k → C' k = C k) ∧ (∀ k, k < 61 → M' k = M k) ∧ jsm J J') ∧ (match r with
    | .inl w => v = w ∧ M' 61 0 = 0
    | .inr E => E = 0 ∧ M' 61 0 = 1) ∧ ∃ A' R', Rel A' R' (if s then d else t) C' M' := by
    intro hx
    have e13 : F_Mo_valley_13 x 0 M1 J = some (0, sd_up M1 61 0 1, J) := by
      unfold F_Mo_valley_13
      rw [q2_of (m_rt0 (e := 1) h0 n10), if_neg (sn_nn rfl)]
    refine ⟨.inr 0, false, C, 0, sd_up M1 61 0 1, J, ?_, ?_, ⟨fun _ _ => rfl, fun k hk => ?_, jsm.refl⟩, ⟨rfl, up_s⟩, A, R, ?_⟩
    · unfold F_VM_valley
      rcases hx with z | z
      · rw [if_pos z]
      · rw [if_neg (ix_lt z (by omega)), c41, if_neg (ix_99 z (by omega))]
    · unfold F_Mo_valley
      rw [hM1, y_lt, m15, e13]
      rcases hx with z | z
      · rw [if_pos z]
      · rw [if_neg (ix_lt z (by omega)), if_pos (Int32.not_le.mp (ix_99 z (by omega)))]
    · rw [up_n (by omega)]; exact hs1.2.2 k hk
    · exact h1.onM (smM.up (by omega) smM.refl)
  rcases ix_or x (n := f + 1) (by omega) with hx | ⟨n, hn, rfl⟩
  · exact bad hx
  have hd' : d = 21 ∨ d = 41 := by omega
  have htd : t + 20 ≤ d ∨ d + 20 ≤ t := by omega
  obtain ⟨b, hb⟩ := bytes_of hb
  obtain ⟨C1, c1, c2, c3, c4, c5, c6⟩ := c_read0 (b := b) (n := n) (C := C) hd' (by omega) (fun j hj => ⟨(hb j (by omega)).1, (hb j (by omega)).2.1⟩)
  obtain ⟨M2, J2, m1, m2, m3, m4, m5, m6, m7, m8⟩ := m_read0 (b := b) (n := n) (M := M1) (J := J) (by omega) h0 (fun j hj => ⟨(hb j (by omega)).1, (hb j (by omega)).2.2⟩)
  obtain ⟨r, C2, M3, J3, g1, g2, ⟨g3, g4, g5⟩, g6⟩ := l_read (b := b) (n := n) (d := d) n 0 0 C1 M2 J2 sd_fu sd_fu A0 R0 false 0 0 (by omega) (by omega) (by rw [sd_fu_val]; omega) (by rw [sd_fu_val]; omega) (ls_0 hd' c2 c3 c4 m2 m3 m4)
  have cj : ∀ j, (j < d ∨ d + 20 ≤ j) → j ≠ 3 → j ≠ 4 → j ≠ 6 → j ≠ 7 → C2 j = C j := fun j j1 j2 j3 j4 j5 => by rw [g3 j j2 j1]; exact c5 j j1 j2 j3 j4 j5
  have mj : ∀ j, (j < 61 ∨ (61 < j ∧ j < 74) ∨ 85 < j) → M3 j = M1 j := fun j hj => by rw [g4.1 j hj]; exact m7 j (by omega) (by omega) (by omega)
  have m61 : ∀ j, (j < 15 ∨ j = 18 ∨ 34 < j) → M3 61 j = M1 61 j := fun j hj => by rw [g4.2 j (by omega)]; exact m8 j hj
  have m3_15 : M3 61 15 = 0 := by rw [g4.2 15 (by omega)]; exact m5
  have emo : F_Mo_valley (nI n) M J = F_Mo_valley_80 M3 J3 := by
    unfold F_Mo_valley
    rw [hM1, y_lt, if_neg (nI_pos (by omega)), m15, if_neg (nI_nlt (by omega) (by omega)), m1, g2]
  have ecl : F_VM_valley d (nI n) C = (sd_lt (sd_up C2 4 1 (0 : Int32)) fun I3 => if r = 0 then sd_lt (sd_up I3 0 8 (-1 : Int32)) fun I4 => sd_lt (sd_up I4 0 9 (0 : Int32)) fun I5 => sd_q1 (F_Story_begin (((1 : Int32) <<< ((I5 d 0) &&& 31)) - 1) I5) fun I6 => some (.inl (0 : Int32), (true, I6)) else sd_q1 (F_Reader_place I3) fun r4 => sd_lt (sd_up I3 0 8 r4) fun I5 => sd_gu (sm_in (0 : Int32) 3 = true) <| sd_lt (sd_up I5 1 0 ((I5 1 0) + (1 : Int32))) fun I7 => some (.inl r, (false, I7))) := by
    unfold F_VM_valley
    rw [if_neg (nI_pos (by omega)), c41, if_pos (nI_le (by omega) (by omega)), c1, q2_of g1]
  rw [emo, ecl, y_lt]
  rcases g6 with ⟨rfl, k', A', R', ev', u', a', Cx, l1, l2, l3⟩ | ⟨e, k', rfl, l1, l2, l3⟩
  · have lmk := ls_mk l1
    obtain ⟨-, ⟨w1, w2, w3⟩, ⟨-, w4⟩, ⟨w5, w6⟩, ⟨w7, w8, w9⟩, -⟩ := l1
    have hcn : cnR R' ≤ 4 := by unfold cnR; repeat (first | omega | split)
    have hu7 := w5.1.2
    obtain ⟨M4, y1, ⟨y2, y3⟩, ⟨y4, y5, y6, y7⟩, y8, y9⟩ := m_80 (J := J3) w1 w2 lmk.2.1 w4 w6 (by omega) (fun ρ hρ => by obtain ⟨z, -, -, z3, -⟩ := w5.2 ρ hρ; omega)
    have e0 : sd_up (sd_up (sd_up C2 4 1 0) 0 8 (-1)) 0 9 0 d 0 = nI (A' 0 0) := by rw [up_n (by omega), up_n (by omega), up_n (by omega)]; exact l2.1
    obtain ⟨C5, b1, ⟨b2, b3, b4, b5, b6⟩, ⟨b7, b8⟩, b9⟩ := c_begin (C := sd_up (sd_up (sd_up C2 4 1 0) 0 8 (-1)) 0 9 0) (x := ((1 : Int32) <<< (nI (A' 0 0) &&& 31)) - 1)
    have ck5 : ∀ k, k ≠ 0 → k ≠ 4 → k ≠ 8 → k ≠ 9 → C5 k = C2 k := fun k k1 k2 k3 k4 => by rw [b9 k k3 k4, up_n k1, up_n k1, up_n k2]
    have h14 := w1.1
    refine ⟨.inl 0, true, C5, 0, M4, J3, ?_, y1, ⟨fun k hk => ?_, fun k hk => ?_, m6.trans g5⟩, ⟨rfl, ?_⟩, A', R', ?_⟩
    · rw [if_pos rfl, y_lt, y_lt, e0, q1_of b1]
    · rw [ck5 k (by omega) (by omega) (by omega) (by omega)]; exact cj k (by omega) (by omega) (by omega) (by omega) (by omega)
    · rw [y9 k (by omega), mj k (by omega)]; exact hs1.2.2 k hk
    · rw [y8 0 (by omega), m61 0 (by omega)]; exact h0
    · show Rel A' R' d C5 M4
      refine ⟨⟨w1, w3, cA_same l2 (fun k hk => ck5 _ (by omega) (by omega) (by omega) (by omega)), fun ρ hρ => ?_, y2, y3⟩, ⟨?_, ⟨0, by omega, b7, y5, fun j hj => absurd hj (by omega)⟩, 0, by omega, b8, y6, fun j hj => absurd hj (by omega)⟩, ⟨?_, Or.inl ?_⟩, ?_, fun k hk => ?_, ⟨0, by omega, ?_, ?_, fun j hj => absurd hj (by omega)⟩, hd'⟩
      · obtain ⟨z, z1, z2, z3, z4⟩ := w5.2 ρ hρ
        refine ⟨z, ?_, ?_, by omega, fun i s hs => ?_⟩
        · rw [ck5 _ (by omega) (by omega) (by omega) (by omega), l3 _ (by omega)]; exact z1
        · rw [ck5 _ (by omega) (by omega) (by omega) (by omega), l3 _ (by omega)]; exact z2
        · rw [ck5 _ (by omega) (by omega) (by omega) (by omega), l3 _ (by omega)]; exact z4 i s hs
      · show stR (A' 0 0) (M4 86) (C5 9)
        refine ⟨fun i hi => ⟨?_, ?_, ?_⟩, fun s hs => Or.inl ⟨y4 s (by omega), ?_, ?_, ?_⟩, ?_, ?_⟩
        · rw [b2, allb h14]; exact decide_eq_false (by omega)
        · rw [b3]; exact b_0 i
        · rw [b4]; exact b_0 i
        · rw [b2, allb h14]; exact decide_eq_true hs
        · rw [b3]; exact b_0 s
        · rw [b4]; exact b_0 s
        · rw [y4 14 (by omega), b5]
        · rw [y4 15 (by omega), b6]
      · rw [b9 0 (by omega) (by omega), up_s, y7]
      · rw [b9 0 (by omega) (by omega), up_s]
      · rw [b9 0 (by omega) (by omega), up_m (by omega), up_s, y8 17 (by omega)]; exact lmk.2.2.symm
      · rw [ck5 1 (by omega) (by omega) (by omega) (by omega), cj 1 (by omega) (by omega) (by omega) (by omega) (by omega), y9 73 (by omega), mj 73 (by omega)]; exact h1.2.2.2.2.1 k hk
      · rw [b9 4 (by omega) (by omega), up_n (by omega), up_n (by omega), up_s]; rfl
      · rw [y8 15 (by omega)]; exact m3_15
  · have he := l3.2
    have t2 : tks b n C2 := tks_of c2.1 (g3 4 (by omega) (by omega)) (g3 5 (by omega) (by omega)) (g3 6 (by omega) (by omega)) (g3 7 (by omega) (by omega))
    have t3 := tks_p (k := k') (tks_41 (x := 0) t2) (by omega)
    have ep : F_Reader_place (sd_up C2 4 1 0) = some (nI (tp b n k')) := by
      unfold F_Reader_place
      rw [show sd_up C2 4 1 0 3 1 = nI k' by rw [up_n (by omega)]; exact l2.2, q1_of t3]
    have e10 : sd_up (sd_up C2 4 1 0) 0 8 (nI (tp b n k')) 1 0 = C 1 0 := by rw [up_n (by omega), up_n (by omega), cj 1 (by omega) (by omega) (by omega) (by omega) (by omega)]
    refine ⟨.inl (nI e), false, sd_up (sd_up (sd_up C2 4 1 0) 0 8 (nI (tp b n k'))) 1 0 (C 1 0 + 1), nI e, _, J3, ?_, m_80b l3, ⟨fun k hk => ?_, fun k hk => ?_, m6.trans g5⟩, ⟨rfl, ?_⟩, A, R, ?_⟩
    · rw [if_neg (nI_ne0 he.1 (by omega)), q1_of ep, y_lt, sn_gu (by decide), e10, y_lt]
    · rw [up_n (by omega), up_n (by omega), up_n (by omega)]; exact cj k (by omega) (by omega) (by omega) (by omega) (by omega)
    · rw [up_n (by omega), mj k (by omega)]; exact hs1.2.2 k hk
    · rw [up_n (by omega), m61 0 (by omega)]; exact h0
    · show Rel A R t (sd_up (sd_up (sd_up C2 4 1 0) 0 8 (nI (tp b n k'))) 1 0 (C 1 0 + 1)) (sd_up M3 73 0 (M3 73 0 + 1))
      have ck5 : ∀ k, k ≠ 0 → k ≠ 1 → k ≠ 3 → k ≠ 4 → k ≠ 6 → k ≠ 7 → (k < d ∨ d + 20 ≤ k) → sd_up (sd_up (sd_up C2 4 1 0) 0 8 (nI (tp b n k'))) 1 0 (C 1 0 + 1) k = C k := fun k z0 z1 z2 z3 z4 z5 z6 => by rw [up_n z1, up_n z0, up_n z3]; exact cj k z6 z2 z3 z4 z5
      have mk5 : ∀ k, (k < 61 ∨ (61 < k ∧ k < 73) ∨ 85 < k) → sd_up M3 73 0 (M3 73 0 + 1) k = M1 k := fun k hk => by rw [up_n (by omega)]; exact mj k (by omega)
      have m5 : ∀ j, (j < 15 ∨ j = 18 ∨ 34 < j) → sd_up M3 73 0 (M3 73 0 + 1) 61 j = M1 61 j := fun j hj => by rw [up_n (by omega)]; exact m61 j hj
      obtain ⟨⟨z1, z2, z3, z4, z5, z6⟩, z7, z8, z9, z10, -, z12⟩ := h1
      refine ⟨⟨z1, z2, cA_same z3 (fun k hk => ck5 _ (by omega) (by omega) (by omega) (by omega) (by omega) (by omega) (by omega)), ?_, mA_of z5 (m5 1 (by omega)) (m5 2 (by omega)) (m5 3 (by omega)) (fun k a b => mk5 k (by omega)), ?_⟩, ?_, ⟨?_, ?_⟩, ?_, fun k hk => ?_, ⟨0, by omega, ?_, ?_, fun j hj => absurd hj (by omega)⟩, z12⟩
      · unfold rC
        rw [ck5 (t + 14 + 1) (by omega) (by omega) (by omega) (by omega) (by omega) (by omega) (by omega), ck5 (t + 14 + 2) (by omega) (by omega) (by omega) (by omega) (by omega) (by omega) (by omega), ck5 (t + 14 + 3) (by omega) (by omega) (by omega) (by omega) (by omega) (by omega) (by omega)]
        exact z4
      · unfold rM
        rw [mk5 70 (by omega), mk5 71 (by omega)]
        exact z6
      · exact chR_M (chR_C z7 (fun k hk => ck5 _ (by omega) (by omega) (by omega) (by omega) (by omega) (by omega) (by omega))) (mk5 86 (by omega)) (mk5 88 (by omega)) (mk5 91 (by omega)) (m5 50 (by omega)) (m5 53 (by omega))
      · rw [up_n (by omega), up_m (by omega), up_n (by omega), cj 0 (by omega) (by omega) (by omega) (by omega) (by omega), m5 57 (by omega)]; exact z8.1
      · rw [up_n (by omega), up_m (by omega), up_n (by omega), cj 0 (by omega) (by omega) (by omega) (by omega) (by omega)]
        exact z8.2.imp id (fun z => ⟨z.1, chR_M (chR_C z.2 (fun k hk => ck5 _ (by omega) (by omega) (by omega) (by omega) (by omega) (by omega) (by omega))) (mk5 93 (by omega)) (mk5 94 (by omega)) (mk5 95 (by omega)) (m5 58 (by omega)) (m5 59 (by omega))⟩)
      · rw [up_n (by omega), up_s, up_n (by omega)]; exact l3.1.2.symm
      · by_cases zk : k = 0
        · subst zk
          rw [up_s, up_s, mj 73 (by omega), z10 0 hk]
        · rw [up_m zk, up_m zk, up_n (by omega), up_n (by omega), cj 1 (by omega) (by omega) (by omega) (by omega) (by omega), mj 73 (by omega)]; exact z10 k hk
      · rw [up_n (by omega), up_n (by omega), up_s]; rfl
      · rw [up_n (by omega)]; exact m3_15
end VB
