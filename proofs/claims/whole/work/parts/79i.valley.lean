/-! ===== valley: what is told is taken, or not ===== -/
theorem sdn62 : sd_n 62 = 14 ∧ sd_n 63 = 14 ∧ sd_n 64 = 14 ∧ sd_n 65 = 14 ∧ sd_n 66 = 14 ∧ sd_n 67 = 20 ∧ sd_n 68 = 20 ∧ sd_n 69 = 240 ∧ sd_n 70 = 4 ∧ sd_n 71 = 2800 := by decide +kernel
theorem sdn74 : sd_n 74 = 14 ∧ sd_n 75 = 14 ∧ sd_n 76 = 14 ∧ sd_n 77 = 14 ∧ sd_n 78 = 14 ∧ sd_n 79 = 20 ∧ sd_n 80 = 20 ∧ sd_n 81 = 240 ∧ sd_n 82 = 4 ∧ sd_n 83 = 2800 := by decide +kernel
theorem allb0 : ∀ n, n ≤ 14 → ∀ i, i < 32 → bt (((1 : Int32) <<< (nI n &&& 31)) - 1) i = decide (i < n) := by decide +kernel
theorem allb {n i : Nat} (hn : n ≤ 14) : bt (((1 : Int32) <<< (nI n &&& 31)) - 1) i = decide (i < n) := by
  by_cases h : i < 32
  · exact allb0 n hn i h
  · rw [decide_eq_false (by omega)]
    exact BitVec.getLsbD_of_ge _ _ (by omega)
theorem bt_0' {i : Nat} : bt 0 i = false := b_0 i
noncomputable def F_VM_valley (d : Nat) (x1 : Int32) (I : sm_MI) : Option ((Int32 ⊕ Nat) × (Bool × sm_MI)) :=
  if x1 < 0 then
    some (.inr 0, (false, I))
  else
    if x1 ≤ (I 4 1) then
      sd_q2 (F_Reader_read d x1 I) fun r1 I2 =>
      sd_lt (sd_up I2 4 1 (0 : Int32)) fun I3 =>
      if r1 = 0 then
        sd_lt (sd_up I3 0 8 (-1 : Int32)) fun I4 =>
        sd_lt (sd_up I4 0 9 (0 : Int32)) fun I5 =>
        sd_q1 (F_Story_begin (((1 : Int32) <<< ((I5 d 0) &&& 31)) - 1) I5) fun I6 =>
        some (.inl (0 : Int32), (true, I6))
      else
        sd_q1 (F_Reader_place I3) fun r4 =>
        sd_lt (sd_up I3 0 8 r4) fun I5 =>
        sd_gu (sm_in (0 : Int32) 3 = true) <|
        sd_lt (sd_up I5 1 0 ((I5 1 0) + (1 : Int32))) fun I7 =>
        some (.inl r1, (false, I7))
    else
      some (.inr 0, (false, I))
section VA
variable {b : Nat → Nat} {n k u a d : Nat} {A : sA} {R : Nat → List Nat} {ev : Bool} {C C' M M' : sm_MI} {J J' : sm_MJ}
/-- what is told becomes what is -/
theorem m_80 (hw : wA A) (hev : ev = false → A 0 2 = 4) (hg : M 61 16 = 0) (h : mdf A ev M) (hr : mrl R a M) (ha : a ≤ 2000) (hl : ∀ ρ, ρ < 4 → (R ρ).length ≤ 700) : ∃ M', F_Mo_valley_80 M J = some (0, M', J) ∧ (mA A M' ∧ rM R M') ∧ ((∀ s, s < 16 → M' 86 s = 0) ∧ M' 61 50 = 0 ∧ M' 61 53 = 0 ∧ M' 61 57 = 0) ∧ (∀ j, (j = 0 ∨ (3 < j ∧ j < 50) ∨ (53 < j ∧ j < 57) ∨ 57 < j) → M' 61 j = M 61 j) ∧ ∀ k, (k < 61 ∨ (71 < k ∧ k ≠ 86)) → M' k = M k := by
  obtain ⟨⟨h1, h2, h3⟩, h4, h5⟩ := h
  obtain ⟨w1, w2, w3, w4, w5, w6⟩ := hw
  have hg' := m_good hg
  have e80 : F_Mo_valley_80 M J = F_Mo_valley_111 (nI (A 0 2)) (sd_up (sd_up M 61 1 (nI (A 0 0))) 61 2 (nI (A 0 1))) J := by
    unfold F_Mo_valley_80
    rw [q1_of hg', if_pos (show ¬ (1 : Int32) = 0 by decide), h1, y_lt, show sd_up M 61 1 (nI (A 0 0)) 61 28 = nI (A 0 1) by rw [up_m (by omega)]; exact h2, y_lt, show sd_up (sd_up M 61 1 (nI (A 0 0))) 61 2 (nI (A 0 1)) 61 29 = (if ev = true then nI (A 0 2) else -1) by rw [up_m (by omega), up_m (by omega)]; exact h3]
    cases ev
    · rw [if_neg (sn_nn (show (if false = true then nI (A 0 2) else -1) = -1 from rfl)), hev rfl]; rfl
    · rw [if_pos (show ¬ (if true = true then nI (A 0 2) else -1) = -1 from sn_ne1 (by omega))]; rfl
  generalize hM0 : sd_up (sd_up (sd_up M 61 1 (nI (A 0 0))) 61 2 (nI (A 0 1))) 61 3 (nI (A 0 2)) = M0
  have i1 : M0 61 1 = nI (A 0 0) := by rw [← hM0, up_m (by omega), up_m (by omega), up_s]
  have i2 : M0 61 2 = nI (A 0 1) := by rw [← hM0, up_m (by omega), up_s]
  have i3 : M0 61 3 = nI (A 0 2) := by rw [← hM0, up_s]
  have io : ∀ j, (j = 0 ∨ 3 < j) → M0 61 j = M 61 j := fun j hj => by rw [← hM0, up_m (by omega), up_m (by omega), up_m (by omega)]
  have ik : ∀ k, k ≠ 61 → M0 k = M k := fun k hk => by rw [← hM0, up_n hk, up_n hk, up_n hk]
  obtain ⟨p1, p2, p3, p4, p5, p6, p7, p8, p9, p10⟩ := sdn62
  obtain ⟨q1, q2, q3, q4, q5, q6, q7, q8, q9, q10⟩ := sdn74
  obtain ⟨N1, a1, a2, a3⟩ := m_copies (p := 74) (q := 62) (I := M0) q1 p1 (by omega) (by omega)
  obtain ⟨N2, b1, b2, b3⟩ := m_copies (p := 75) (q := 63) (I := N1) q2 p2 (by omega) (by omega)
  obtain ⟨N3, c1, c2, c3⟩ := m_copies (p := 76) (q := 64) (I := N2) q3 p3 (by omega) (by omega)
  obtain ⟨N4, d1, d2, d3⟩ := m_copies (p := 77) (q := 65) (I := N3) q4 p4 (by omega) (by omega)
  obtain ⟨N5, e1, e2, e3⟩ := m_copies (p := 78) (q := 66) (I := N4) q5 p5 (by omega) (by omega)
  obtain ⟨N6, f1, f2, f3⟩ := m_copies (p := 79) (q := 67) (I := N5) q6 p6 (by omega) (by omega)
  obtain ⟨N7, g1, g2, g3⟩ := m_copies (p := 80) (q := 68) (I := N6) q7 p7 (by omega) (by omega)
  obtain ⟨N8, k1, k2, k3⟩ := m_copies (p := 81) (q := 69) (I := N7) q8 p8 (by omega) (by omega)
  obtain ⟨N9, l1, l2, l3⟩ := m_copies (p := 82) (q := 70) (I := N8) q9 p9 (by omega) (by omega)
  obtain ⟨N10, m1, m2, m3⟩ := m_copies (p := 83) (q := 71) (I := N9) q10 p10 (by omega) (by omega)
  have same : ∀ k, (k < 62 ∨ 71 < k) → N10 k = M0 k := fun k hk => by rw [m3 k (by omega), l3 k (by omega), k3 k (by omega), g3 k (by omega), f3 k (by omega), e3 k (by omega), d3 k (by omega), c3 k (by omega), b3 k (by omega), a3 k (by omega)]
  have v62 : ∀ s, s < 14 → N10 62 s = M 74 s := fun s hs => by rw [m3 62 (by omega), l3 62 (by omega), k3 62 (by omega), g3 62 (by omega), f3 62 (by omega), e3 62 (by omega), d3 62 (by omega), c3 62 (by omega), b3 62 (by omega), a2 s hs, ik 74 (by omega)]
  have v63 : ∀ s, s < 14 → N10 63 s = M 75 s := fun s hs => by rw [m3 63 (by omega), l3 63 (by omega), k3 63 (by omega), g3 63 (by omega), f3 63 (by omega), e3 63 (by omega), d3 63 (by omega), c3 63 (by omega), b2 s hs, a3 75 (by omega), ik 75 (by omega)]
  have v64 : ∀ s, s < 14 → N10 64 s = M 76 s := fun s hs => by rw [m3 64 (by omega), l3 64 (by omega), k3 64 (by omega), g3 64 (by omega), f3 64 (by omega), e3 64 (by omega), d3 64 (by omega), c2 s hs, b3 76 (by omega), a3 76 (by omega), ik 76 (by omega)]
  have v65 : ∀ s, s < 14 → N10 65 s = M 77 s := fun s hs => by rw [m3 65 (by omega), l3 65 (by omega), k3 65 (by omega), g3 65 (by omega), f3 65 (by omega), e3 65 (by omega), d2 s hs, c3 77 (by omega), b3 77 (by omega), a3 77 (by omega), ik 77 (by omega)]
  have v66 : ∀ s, s < 14 → N10 66 s = M 78 s := fun s hs => by rw [m3 66 (by omega), l3 66 (by omega), k3 66 (by omega), g3 66 (by omega), f3 66 (by omega), e2 s hs, d3 78 (by omega), c3 78 (by omega), b3 78 (by omega), a3 78 (by omega), ik 78 (by omega)]
  have v67 : ∀ s, s < 20 → N10 67 s = M 79 s := fun s hs => by rw [m3 67 (by omega), l3 67 (by omega), k3 67 (by omega), g3 67 (by omega), f2 s hs, e3 79 (by omega), d3 79 (by omega), c3 79 (by omega), b3 79 (by omega), a3 79 (by omega), ik 79 (by omega)]
  have v68 : ∀ s, s < 20 → N10 68 s = M 80 s := fun s hs => by rw [m3 68 (by omega), l3 68 (by omega), k3 68 (by omega), g2 s hs, f3 80 (by omega), e3 80 (by omega), d3 80 (by omega), c3 80 (by omega), b3 80 (by omega), a3 80 (by omega), ik 80 (by omega)]
  have v69 : ∀ s, s < 240 → N10 69 s = M 81 s := fun s hs => by rw [m3 69 (by omega), l3 69 (by omega), k2 s hs, g3 81 (by omega), f3 81 (by omega), e3 81 (by omega), d3 81 (by omega), c3 81 (by omega), b3 81 (by omega), a3 81 (by omega), ik 81 (by omega)]
  have v70 : ∀ s, s < 4 → N10 70 s = M 82 s := fun s hs => by rw [m3 70 (by omega), l2 s hs, k3 82 (by omega), g3 82 (by omega), f3 82 (by omega), e3 82 (by omega), d3 82 (by omega), c3 82 (by omega), b3 82 (by omega), a3 82 (by omega), ik 82 (by omega)]
  have v71 : ∀ s, s < 2800 → N10 71 s = M 83 s := fun s hs => by rw [m2 s hs, l3 83 (by omega), k3 83 (by omega), g3 83 (by omega), f3 83 (by omega), e3 83 (by omega), d3 83 (by omega), c3 83 (by omega), b3 83 (by omega), a3 83 (by omega), ik 83 (by omega)]
  obtain ⟨y1, y2⟩ := lp_in (fun f j M => F_Mo_valley_174 f j M J) (fun M => some ((0 : Int32), sd_up (sd_up (sd_up M 61 50 0) 61 53 0) 61 57 0, J)) (fun j M => sd_up M 86 j 0) (fun r M' => (∀ k, k < r → M' 86 k = 0) ∧ ∀ k, k ≠ 86 → M' k = N10 k) 16 N10 ⟨fun k hk => absurd hk (by omega), fun _ _ => rfl⟩ (by omega)
    (fun f M' _ => by
      show F_Mo_valley_174B (F_Mo_valley_174 f) (nI 16) M' J = _
      unfold F_Mo_valley_174B
      rw [if_pos (show (16 : Int32) ≤ nI 16 by decide), y_lt, y_lt, y_lt])
    (fun f r M' hr h => ⟨⟨fun k hk => by
        by_cases z : k = r
        · subst z; exact up_s
        · rw [up_m z]; exact h.1 k (by omega), fun k hk => by rw [up_n hk]; exact h.2 k hk⟩, by
      show F_Mo_valley_174B (F_Mo_valley_174 f) (nI r) M' J = _
      unfold F_Mo_valley_174B
      rw [if_neg (show ¬ (16 : Int32) ≤ nI r from nI_ge (b := 16) hr (by omega)), sn_gu (sn_in' hr (by omega)), nI_clamp (by omega), y_lt, nI_1]⟩)
  generalize itr (fun j M => sd_up M 86 j 0) 16 N10 = N11 at y1 y2
  have ex : F_Mo_valley_80 M J = some (0, sd_up (sd_up (sd_up N11 61 50 0) 61 53 0) 61 57 0, J) := by
    rw [e80]
    unfold F_Mo_valley_111
    rw [y_lt, hM0, q1_of a1, q1_of b1, q1_of c1, q1_of d1, q1_of e1, q1_of f1, q1_of g1, q1_of k1, q1_of l1, q1_of m1]
    exact y1
  have fk : ∀ k, k ≠ 61 → k ≠ 86 → sd_up (sd_up (sd_up N11 61 50 0) 61 53 0) 61 57 0 k = N10 k := fun k z1 z2 => by rw [up_n z1, up_n z1, up_n z1]; exact y2.2 k z2
  have f61 : ∀ j, j ≠ 50 → j ≠ 53 → j ≠ 57 → sd_up (sd_up (sd_up N11 61 50 0) 61 53 0) 61 57 0 61 j = M0 61 j := fun j z1 z2 z3 => by rw [up_m z3, up_m z2, up_m z1, y2.2 61 (by omega), same 61 (by omega)]
  refine ⟨_, ex, ⟨⟨by rw [f61 1 (by omega) (by omega) (by omega)]; exact i1, by rw [f61 2 (by omega) (by omega) (by omega)]; exact i2, by rw [f61 3 (by omega) (by omega) (by omega)]; exact i3, fun s hs => ?_, fun r hr => ?_⟩, fun ρ hρ => ?_⟩, ⟨fun s hs => ?_, ?_, ?_, up_s⟩, fun j hj => ?_, fun k hk => ?_⟩
  · rw [fk 62 (by omega) (by omega), fk 63 (by omega) (by omega), fk 64 (by omega) (by omega), fk 65 (by omega) (by omega), fk 66 (by omega) (by omega), v62 s (by omega), v63 s (by omega), v64 s (by omega), v65 s (by omega), v66 s (by omega)]
    exact h4 s hs
  · rw [fk 67 (by omega) (by omega), fk 68 (by omega) (by omega), fk 69 (by omega) (by omega), v67 r hr, v68 r hr]
    obtain ⟨z1, z2⟩ := h5 r hr
    refine ⟨z1, fun z3 => ⟨(z2 z3).1, fun i hi => ?_⟩⟩
    have := ((w6 r hr).2.2.1 z3).2.2
    rw [v69 _ (by omega)]
    exact (z2 z3).2 i hi
  · rw [fk 70 (by omega) (by omega), fk 71 (by omega) (by omega), v70 ρ hρ]
    obtain ⟨z1, z2⟩ := hr.2 ρ hρ
    refine ⟨z1, fun z3 => ?_⟩
    obtain ⟨x, x1, x2, x3⟩ := z2 z3
    refine ⟨x, x1, hl ρ hρ, fun i c hc => ?_⟩
    have := at_lt hc
    rw [v71 _ (by omega)]
    exact ⟨x3 i c hc, by omega⟩
  · rw [up_n (by omega), up_n (by omega), up_n (by omega)]; exact y2.1 s hs
  · rw [up_m (by omega), up_m (by omega), up_s]
  · rw [up_m (by omega), up_s]
  · rw [f61 j (by omega) (by omega) (by omega)]; exact io j (by omega)
  · rcases hk with z | z
    · rw [fk k (by omega) (by omega), same k (by omega)]; exact ik k (by omega)
    · rw [fk k (by omega) (by omega), same k (by omega)]; exact ik k (by omega)
theorem m_80b {e : Nat} (h : mbad b n e k M) : F_Mo_valley_80 M J = some (nI e, sd_up M 73 0 (M 73 0 + 1), J) := by
  unfold F_Mo_valley_80
  rw [q1_of h.bad, if_neg (sn_nn rfl), sn_gu (by decide), sn_gu (by decide), y_lt, up_n (by omega), h.1.1]
theorem c_begin {x : Int32} : ∃ C', F_Story_begin x C = some C' ∧ (C' 9 0 = x ∧ C' 9 1 = 0 ∧ C' 9 2 = 0 ∧ C' 9 3 = 0 ∧ C' 9 4 = 0) ∧ (C' 8 2 = 0 ∧ C' 8 6 = 0) ∧ ∀ k, k ≠ 8 → k ≠ 9 → C' k = C k := by
  refine ⟨sd_up (sd_up (sd_up (sd_up (sd_up (sd_up (sd_up C 9 0 x) 9 1 0) 9 2 0) 9 3 0) 9 4 0) 8 2 0) 8 6 0, ?_, ⟨?_, ?_, ?_, ?_, ?_⟩, ⟨?_, up_s⟩, fun k h1 h2 => ?_⟩
  · unfold F_Story_begin F_State_begin
    rw [y_lt, y_lt, y_lt, y_lt, y_lt, y_q1, y_lt, y_lt]
  · rw [up_n (by omega), up_n (by omega), up_m (by omega), up_m (by omega), up_m (by omega), up_m (by omega), up_s]
  · rw [up_n (by omega), up_n (by omega), up_m (by omega), up_m (by omega), up_m (by omega), up_s]
  · rw [up_n (by omega), up_n (by omega), up_m (by omega), up_m (by omega), up_s]
  · rw [up_n (by omega), up_n (by omega), up_m (by omega), up_s]
  · rw [up_n (by omega), up_n (by omega), up_s]
  · rw [up_m (by omega), up_s]
  · rw [up_n h1, up_n h1, up_n h2, up_n h2, up_n h2, up_n h2, up_n h2]
end VA
