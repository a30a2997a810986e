/-! ===== printed by wip/gen/emit_parts.py: what the methods compute ===== -/
-- 186 Mo_expression
noncomputable def F_Mo_expression_178 (I : sm_MI) (J : sm_MJ) : Option (sm_MI × sm_MJ) :=
  sd_q1 (F_Mo_drops (0 : Int32) I) fun I1 =>
  sd_q1 (F_Mo_puts (0 : Int32) I1) fun I2 =>
  some (I2, J)
noncomputable def F_Mo_expression_168 (I : sm_MI) (J : sm_MJ) : Option (sm_MI × sm_MJ) :=
  sd_q1 (F_Mo_isGood I) fun r1 =>
  if r1 = 0 then
    F_Mo_expression_178 I J
  else
    if (I 61 34) ≤ (1 : Int32) then
      F_Mo_expression_178 I J
    else
      sd_q1 (F_Mo_wrong (1 : Int32) I) fun I2 =>
      F_Mo_expression_178 I2 J
noncomputable def F_Mo_expression_52 (k23 : Int32 → sm_MI → sm_MJ → Option (sm_MI × sm_MJ)) (x3 : Int32) (s1 : Int32) (I : sm_MI) (J : sm_MJ) : Option (sm_MI × sm_MJ) :=
  sd_q1 (F_Mo_waitsFor s1 I) fun I1 =>
  sd_gu (sm_in (I1 61 34) 9 = true) <|
  sd_lt (sd_up I1 85 (Int32.toNatClampNeg (I1 61 34)) (vp_nar .boolean (0 : Int32))) fun I3 =>
  sd_q2 (F_Mo_goes I3 J) fun I4 J5 =>
  sd_q2 (F_Mo_operand (1 : Int32) I4 J5) fun I6 J7 =>
  k23 x3 I6 J7
noncomputable def F_Mo_expression_44 (k23 : Int32 → sm_MI → sm_MJ → Option (sm_MI × sm_MJ)) (x3 : Int32) (x4 : Int32) (s1 : Int32) (I : sm_MI) (J : sm_MJ) : Option (sm_MI × sm_MJ) :=
  sd_q1 (F_Mo_drops s1 I) fun I1 =>
  if ¬ x4 = (21 : Int32) then
    F_Mo_expression_52 k23 x3 (5 : Int32) I1 J
  else
    F_Mo_expression_52 k23 x3 (4 : Int32) I1 J
noncomputable def F_Mo_expression_37 (k23 : Int32 → sm_MI → sm_MJ → Option (sm_MI × sm_MJ)) (x3 : Int32) (x4 : Int32) (I : sm_MI) (J : sm_MJ) : Option (sm_MI × sm_MJ) :=
  if ¬ x4 = (21 : Int32) then
    F_Mo_expression_44 k23 x3 x4 (1 : Int32) I J
  else
    F_Mo_expression_44 k23 x3 x4 (2 : Int32) I J
noncomputable def F_Mo_expression_122 (k23 : Int32 → sm_MI → sm_MJ → Option (sm_MI × sm_MJ)) (x3 : Int32) (s1 : Int32) (I : sm_MI) (J : sm_MJ) : Option (sm_MI × sm_MJ) :=
  sd_q1 (F_Mo_waitsFor s1 I) fun I1 =>
  sd_q2 (F_Mo_goes I1 J) fun I2 J3 =>
  sd_q2 (F_Mo_operand (0 : Int32) I2 J3) fun I4 J5 =>
  k23 x3 I4 J5
noncomputable def F_Mo_expression_111 (k23 : Int32 → sm_MI → sm_MJ → Option (sm_MI × sm_MJ)) (x3 : Int32) (I : sm_MI) (J : sm_MJ) : Option (sm_MI × sm_MJ) :=
  sd_q1 (F_Mo_drops (5 : Int32) I) fun I1 =>
  sd_q1 (F_Mo_isSign (43 : Int32) I1) fun r2 =>
  if r2 = 0 then
    F_Mo_expression_122 k23 x3 (9 : Int32) I1 J
  else
    F_Mo_expression_122 k23 x3 (8 : Int32) I1 J
noncomputable def F_Mo_expression_148 (k23 : Int32 → sm_MI → sm_MJ → Option (sm_MI × sm_MJ)) (x3 : Int32) (s1 : Int32) (I : sm_MI) (J : sm_MJ) : Option (sm_MI × sm_MJ) :=
  sd_q1 (F_Mo_waitsFor s1 I) fun I1 =>
  sd_q2 (F_Mo_goes I1 J) fun I2 J3 =>
  sd_q2 (F_Mo_operand (0 : Int32) I2 J3) fun I4 J5 =>
  k23 x3 I4 J5
noncomputable def F_Mo_expression_137 (k23 : Int32 → sm_MI → sm_MJ → Option (sm_MI × sm_MJ)) (x3 : Int32) (I : sm_MI) (J : sm_MJ) : Option (sm_MI × sm_MJ) :=
  sd_q1 (F_Mo_drops (6 : Int32) I) fun I1 =>
  sd_q1 (F_Mo_isSign (42 : Int32) I1) fun r2 =>
  if r2 = 0 then
    F_Mo_expression_148 k23 x3 (11 : Int32) I1 J
  else
    F_Mo_expression_148 k23 x3 (10 : Int32) I1 J
noncomputable def F_Mo_expression_103 (k23 : Int32 → sm_MI → sm_MJ → Option (sm_MI × sm_MJ)) (x3 : Int32) (I : sm_MI) (J : sm_MJ) : Option (sm_MI × sm_MJ) :=
  sd_q1 (F_Mo_isSign (43 : Int32) I) fun r1 =>
  if ¬ r1 = 0 then
    F_Mo_expression_111 k23 x3 I J
  else
    sd_q1 (F_Mo_isSign (45 : Int32) I) fun r2 =>
    if r2 = 0 then
      sd_q1 (F_Mo_isSign (42 : Int32) I) fun r3 =>
      if ¬ r3 = 0 then
        F_Mo_expression_137 k23 x3 I J
      else
        sd_q1 (F_Mo_isSign (47 : Int32) I) fun r4 =>
        if r4 = 0 then
          sd_q1 (F_Mo_isSign (41 : Int32) I) fun r5 =>
          if r5 = 0 then
            k23 (0 : Int32) I J
          else
            sd_q1 (F_Mo_isOpened I) fun r6 =>
            if r6 = 0 then
              k23 (0 : Int32) I J
            else
              sd_q2 (F_Mo_closes I J) fun I7 J8 =>
              k23 x3 I7 J8
        else
          F_Mo_expression_137 k23 x3 I J
    else
      F_Mo_expression_111 k23 x3 I J
noncomputable def F_Mo_expression_90 (k23 : Int32 → sm_MI → sm_MJ → Option (sm_MI × sm_MJ)) (x3 : Int32) (s1 : Int32) (I : sm_MI) (J : sm_MJ) : Option (sm_MI × sm_MJ) :=
  sd_q1 (F_Mo_waitsFor s1 I) fun I1 =>
  sd_gu (sm_in (I1 61 34) 9 = true) <|
  sd_lt (sd_up I1 85 (Int32.toNatClampNeg (I1 61 34)) (vp_nar .boolean (1 : Int32))) fun I3 =>
  sd_q2 (F_Mo_goes I3 J) fun I4 J5 =>
  sd_q2 (F_Mo_operand (0 : Int32) I4 J5) fun I6 J7 =>
  k23 x3 I6 J7
noncomputable def F_Mo_expression_73 (k23 : Int32 → sm_MI → sm_MJ → Option (sm_MI × sm_MJ)) (x3 : Int32) (I : sm_MI) (J : sm_MJ) : Option (sm_MI × sm_MJ) :=
  sd_gu (sm_in (I 61 34) 9 = true) <|
  if ¬ (I 85 (Int32.toNatClampNeg (I 61 34))) = 0 then
    F_Mo_expression_103 k23 x3 I J
  else
    sd_q1 (F_Mo_drops (4 : Int32) I) fun I2 =>
    sd_q1 (F_Mo_isSign (60 : Int32) I2) fun r3 =>
    if r3 = 0 then
      F_Mo_expression_90 k23 x3 (7 : Int32) I2 J
    else
      F_Mo_expression_90 k23 x3 (6 : Int32) I2 J
noncomputable def F_Mo_expression_23B (k23 : Int32 → sm_MI → sm_MJ → Option (sm_MI × sm_MJ)) (x3 : Int32) (I : sm_MI) (J : sm_MJ) : Option (sm_MI × sm_MJ) :=
  if x3 = 0 then
    F_Mo_expression_168 I J
  else
    sd_q1 (F_Mo_isGood I) fun r1 =>
    if r1 = 0 then
      F_Mo_expression_168 I J
    else
      sd_q1 (F_Mo_knownWord I J) fun r2 =>
      if r2 = (21 : Int32) then
        F_Mo_expression_37 k23 x3 r2 I J
      else
        if ¬ r2 = (22 : Int32) then
          sd_q1 (F_Mo_isSign (60 : Int32) I) fun r3 =>
          if ¬ r3 = 0 then
            F_Mo_expression_73 k23 x3 I J
          else
            sd_q1 (F_Mo_isSign (61 : Int32) I) fun r4 =>
            if r4 = 0 then
              F_Mo_expression_103 k23 x3 I J
            else
              F_Mo_expression_73 k23 x3 I J
        else
          F_Mo_expression_37 k23 x3 r2 I J
noncomputable def F_Mo_expression_23  (n : Nat) : Int32 → sm_MI → sm_MJ → Option (sm_MI × sm_MJ) :=
  sd_fix (fun k x3 I J => F_Mo_expression_23B k x3 I J) (fun _ _ _ => none) n
noncomputable def F_Mo_expression (x1 : Int32) (x2 : Int32) (I : sm_MI) (J : sm_MJ) : Option (sm_MI × sm_MJ) :=
  sd_q1 (F_Mo_isGood I) fun r1 =>
  if ¬ r1 = 0 then
    sd_lt (sd_up I 61 31 x1) fun I2 =>
    sd_lt (sd_up I2 61 32 x2) fun I3 =>
    sd_lt (sd_up I3 61 33 (0 : Int32)) fun I4 =>
    sd_lt (sd_up I4 61 34 (0 : Int32)) fun I5 =>
    sd_q1 (F_Mo_deeper I5) fun I6 =>
    sd_q2 (F_Mo_operand (1 : Int32) I6 J) fun I7 J8 =>
    F_Mo_expression_23 sd_fu (1 : Int32) I7 J8
  else
    some (I, J)
theorem G_Mo_expression_178 {X : Nat × (Nat → Int32)} {t d D : Nat} {Q : sm_Q} {I : sm_MI} {J : sm_MJ} {Iz : sm_MI} {Jz : sm_MJ}
    (hD : 5 ≤ D) (h : F_Mo_expression_178 I J = some (Iz, Jz)) (hQ : Q (.inl none) (Iz, Jz, sm_rf t d))  : sm_W sm_sh X (sm_C sm_sh X sm_P D) me_186 Q (178, [some (.ref 61), none, none, none, none], [], 0, 0) (I, J, sm_rf t d) := by
  unfold F_Mo_expression_178 at h
  refine sm_W.run (sm_C_mono D) 2 (G := True) (fr' := (180, [some (.ref 61), none, none, none, none], [.int (0 : Int32), .ref 61], 0, 0)) (M' := (I, J, sm_rf t d)) rfl trivial ?_
  obtain ⟨I1, hc, h⟩ := sd_q1_go h
  refine sm_W.cal (sm_C_mono D) (y := 179) (as := [.ref 61, .int (0 : Int32)]) (fr' := (181, [some (.ref 61), none, none, none, none], [], 0, 0)) rfl (T_Mo_drops (by omega) hc ?_)
  show sm_W sm_sh X (sm_C sm_sh X sm_P D) me_186 Q (181, [some (.ref 61), none, none, none, none], [], 0, 0) (I1, J, sm_rf t d)
  refine sm_W.run (sm_C_mono D) 2 (G := True) (fr' := (183, [some (.ref 61), none, none, none, none], [.int (0 : Int32), .ref 61], 0, 0)) (M' := (I1, J, sm_rf t d)) rfl trivial ?_
  obtain ⟨I2, hc, h⟩ := sd_q1_go h
  refine sm_W.cal (sm_C_mono D) (y := 176) (as := [.ref 61, .int (0 : Int32)]) (fr' := (184, [some (.ref 61), none, none, none, none], [], 0, 0)) rfl (T_Mo_puts (by omega) hc ?_)
  show sm_W sm_sh X (sm_C sm_sh X sm_P D) me_186 Q (184, [some (.ref 61), none, none, none, none], [], 0, 0) (I2, J, sm_rf t d)
  cases h
  exact sm_W.ret (sm_C_mono D) rfl hQ
theorem G_Mo_expression_168 {X : Nat × (Nat → Int32)} {t d D : Nat} {Q : sm_Q} {I : sm_MI} {J : sm_MJ} {Iz : sm_MI} {Jz : sm_MJ}
    (hD : 5 ≤ D) (h : F_Mo_expression_168 I J = some (Iz, Jz)) (hQ : Q (.inl none) (Iz, Jz, sm_rf t d))  : sm_W sm_sh X (sm_C sm_sh X sm_P D) me_186 Q (168, [some (.ref 61), none, none, none, none], [], 0, 0) (I, J, sm_rf t d) := by
  unfold F_Mo_expression_168 at h
  refine sm_W.run (sm_C_mono D) 1 (G := True) (fr' := (169, [some (.ref 61), none, none, none, none], [.ref 61], 0, 0)) (M' := (I, J, sm_rf t d)) rfl trivial ?_
  obtain ⟨r1, hc, h⟩ := sd_q1_go h
  refine sm_W.cal (sm_C_mono D) (y := 172) (as := [.ref 61]) (fr' := (170, [some (.ref 61), none, none, none, none], [], 0, 0)) rfl (T_Mo_isGood (by omega) hc ?_)
  show sm_W sm_sh X (sm_C sm_sh X sm_P D) me_186 Q (170, [some (.ref 61), none, none, none, none], [.int r1], 0, 0) (I, J, sm_rf t d)
  refine sm_W.run (sm_C_mono D) 1 (G := True) (fr' := (if decide (r1 = 0) = true then 178 else 171, [some (.ref 61), none, none, none, none], [], 0, 0)) (M' := (I, J, sm_rf t d)) rfl trivial (sm_W.iteD h (fun hc h => ?_) (fun hc h => ?_))
  · exact (G_Mo_expression_178 hD h hQ)
  · refine sm_W.run (sm_C_mono D) 4 (G := True) (fr' := (if decide ((I 61 34) ≤ (1 : Int32)) = true then 178 else 175, [some (.ref 61), none, none, none, none], [], 0, 0)) (M' := (I, J, sm_rf t d)) rfl trivial (sm_W.iteD h (fun hc h => ?_) (fun hc h => ?_))
    · exact (G_Mo_expression_178 hD h hQ)
    · refine sm_W.run (sm_C_mono D) 2 (G := True) (fr' := (177, [some (.ref 61), none, none, none, none], [.int (1 : Int32), .ref 61], 0, 0)) (M' := (I, J, sm_rf t d)) rfl trivial ?_
      obtain ⟨I2, hc, h⟩ := sd_q1_go h
      refine sm_W.cal (sm_C_mono D) (y := 171) (as := [.ref 61, .int (1 : Int32)]) (fr' := (178, [some (.ref 61), none, none, none, none], [], 0, 0)) rfl (T_Mo_wrong (by omega) hc ?_)
      show sm_W sm_sh X (sm_C sm_sh X sm_P D) me_186 Q (178, [some (.ref 61), none, none, none, none], [], 0, 0) (I2, J, sm_rf t d)
      exact (G_Mo_expression_178 hD h hQ)
theorem G_Mo_expression_52 {X : Nat × (Nat → Int32)} {t d D : Nat} {Q : sm_Q} {I : sm_MI} {J : sm_MJ} {k23 : Int32 → sm_MI → sm_MJ → Option (sm_MI × sm_MJ)} {x3 : Int32} {s1 : Int32} {Iz : sm_MI} {Jz : sm_MJ}
    (hD : 5 ≤ D) (h : F_Mo_expression_52 k23 x3 s1 I J = some (Iz, Jz)) (hQ : Q (.inl none) (Iz, Jz, sm_rf t d)) (hk23 : ∀ (x3 : Int32) (I : sm_MI) (J : sm_MJ), k23 x3 I J = some (Iz, Jz) → sm_W sm_sh X (sm_C sm_sh X sm_P D) me_186 Q (23, [some (.ref 61), none, none, some (.int x3), none], [], 0, 0) (I, J, sm_rf t d)) : sm_W sm_sh X (sm_C sm_sh X sm_P D) me_186 Q (52, [some (.ref 61), none, none, some (.int x3), none], [.int s1, .ref 61], 0, 0) (I, J, sm_rf t d) := by
  unfold F_Mo_expression_52 at h
  obtain ⟨I1, hc, h⟩ := sd_q1_go h
  refine sm_W.cal (sm_C_mono D) (y := 180) (as := [.ref 61, .int s1]) (fr' := (53, [some (.ref 61), none, none, some (.int x3), none], [], 0, 0)) rfl (T_Mo_waitsFor (by omega) hc ?_)
  show sm_W sm_sh X (sm_C sm_sh X sm_P D) me_186 Q (53, [some (.ref 61), none, none, some (.int x3), none], [], 0, 0) (I1, J, sm_rf t d)
  obtain ⟨g2, h⟩ := sd_gu_go h
  refine sm_W.runL (sm_C_mono D) 6 (G := sm_in (I1 61 34) 9 = true ∧ True) (e := (sd_up I1 85 (Int32.toNatClampNeg (I1 61 34)) (vp_nar .boolean (0 : Int32)))) (fr' := fun _ => (59, [some (.ref 61), none, none, some (.int x3), none], [], 0, 0)) (M' := fun I3 => (I3, J, sm_rf t d)) rfl h ⟨g2, trivial⟩ (fun I3 h => ?_)
  refine sm_W.run (sm_C_mono D) 1 (G := True) (fr' := (60, [some (.ref 61), none, none, some (.int x3), none], [.ref 61], 0, 0)) (M' := (I3, J, sm_rf t d)) rfl trivial ?_
  obtain ⟨I4, J5, hc, h⟩ := sd_q2_go h
  refine sm_W.cal (sm_C_mono D) (y := 167) (as := [.ref 61]) (fr' := (61, [some (.ref 61), none, none, some (.int x3), none], [], 0, 0)) rfl (T_Mo_goes (by omega) hc ?_)
  show sm_W sm_sh X (sm_C sm_sh X sm_P D) me_186 Q (61, [some (.ref 61), none, none, some (.int x3), none], [], 0, 0) (I4, J5, sm_rf t d)
  refine sm_W.run (sm_C_mono D) 2 (G := True) (fr' := (63, [some (.ref 61), none, none, some (.int x3), none], [.int (1 : Int32), .ref 61], 0, 0)) (M' := (I4, J5, sm_rf t d)) rfl trivial ?_
  obtain ⟨I6, J7, hc, h⟩ := sd_q2_go h
  refine sm_W.cal (sm_C_mono D) (y := 183) (as := [.ref 61, .int (1 : Int32)]) (fr' := (64, [some (.ref 61), none, none, some (.int x3), none], [], 0, 0)) rfl (T_Mo_operand (by omega) hc ?_)
  show sm_W sm_sh X (sm_C sm_sh X sm_P D) me_186 Q (64, [some (.ref 61), none, none, some (.int x3), none], [], 0, 0) (I6, J7, sm_rf t d)
  refine sm_W.run (sm_C_mono D) 2 (G := True) (fr' := (23, [some (.ref 61), none, none, some (.int x3), none], [], 0, 0)) (M' := (I6, J7, sm_rf t d)) rfl trivial ?_
  exact (hk23 _ _ _ h)
theorem G_Mo_expression_44 {X : Nat × (Nat → Int32)} {t d D : Nat} {Q : sm_Q} {I : sm_MI} {J : sm_MJ} {k23 : Int32 → sm_MI → sm_MJ → Option (sm_MI × sm_MJ)} {x3 : Int32} {x4 : Int32} {s1 : Int32} {Iz : sm_MI} {Jz : sm_MJ}
    (hD : 5 ≤ D) (h : F_Mo_expression_44 k23 x3 x4 s1 I J = some (Iz, Jz)) (hQ : Q (.inl none) (Iz, Jz, sm_rf t d)) (hk23 : ∀ (x3 : Int32) (I : sm_MI) (J : sm_MJ), k23 x3 I J = some (Iz, Jz) → sm_W sm_sh X (sm_C sm_sh X sm_P D) me_186 Q (23, [some (.ref 61), none, none, some (.int x3), none], [], 0, 0) (I, J, sm_rf t d)) : sm_W sm_sh X (sm_C sm_sh X sm_P D) me_186 Q (44, [some (.ref 61), none, none, some (.int x3), some (.int x4)], [.int s1, .ref 61], 0, 0) (I, J, sm_rf t d) := by
  unfold F_Mo_expression_44 at h
  obtain ⟨I1, hc, h⟩ := sd_q1_go h
  refine sm_W.cal (sm_C_mono D) (y := 179) (as := [.ref 61, .int s1]) (fr' := (45, [some (.ref 61), none, none, some (.int x3), some (.int x4)], [], 0, 0)) rfl (T_Mo_drops (by omega) hc ?_)
  show sm_W sm_sh X (sm_C sm_sh X sm_P D) me_186 Q (45, [some (.ref 61), none, none, some (.int x3), some (.int x4)], [], 0, 0) (I1, J, sm_rf t d)
  refine sm_W.run (sm_C_mono D) 4 (G := True) (fr' := (if decide (¬ x4 = (21 : Int32)) = true then 51 else 49, [some (.ref 61), none, none, some (.int x3), some (.int x4)], [.ref 61], 0, 0)) (M' := (I1, J, sm_rf t d)) rfl trivial (sm_W.iteD h (fun hc h => ?_) (fun hc h => ?_))
  · refine sm_W.run (sm_C_mono D) 1 (G := True) (fr' := (52, [some (.ref 61), none, none, some (.int x3), some (.int x4)], [.int (5 : Int32), .ref 61], 0, 0)) (M' := (I1, J, sm_rf t d)) rfl trivial ?_
    exact sm_W.forget (L' := [some (.ref 61), none, none, some (.int x3), none]) ⟨rfl, ⟨rfl, trivial⟩⟩ (G_Mo_expression_52 hD h hQ hk23)
  · refine sm_W.run (sm_C_mono D) 2 (G := True) (fr' := (52, [some (.ref 61), none, none, some (.int x3), some (.int x4)], [.int (4 : Int32), .ref 61], 0, 0)) (M' := (I1, J, sm_rf t d)) rfl trivial ?_
    exact sm_W.forget (L' := [some (.ref 61), none, none, some (.int x3), none]) ⟨rfl, ⟨rfl, trivial⟩⟩ (G_Mo_expression_52 hD h hQ hk23)
theorem G_Mo_expression_37 {X : Nat × (Nat → Int32)} {t d D : Nat} {Q : sm_Q} {I : sm_MI} {J : sm_MJ} {k23 : Int32 → sm_MI → sm_MJ → Option (sm_MI × sm_MJ)} {x3 : Int32} {x4 : Int32} {Iz : sm_MI} {Jz : sm_MJ}
    (hD : 5 ≤ D) (h : F_Mo_expression_37 k23 x3 x4 I J = some (Iz, Jz)) (hQ : Q (.inl none) (Iz, Jz, sm_rf t d)) (hk23 : ∀ (x3 : Int32) (I : sm_MI) (J : sm_MJ), k23 x3 I J = some (Iz, Jz) → sm_W sm_sh X (sm_C sm_sh X sm_P D) me_186 Q (23, [some (.ref 61), none, none, some (.int x3), none], [], 0, 0) (I, J, sm_rf t d)) : sm_W sm_sh X (sm_C sm_sh X sm_P D) me_186 Q (37, [some (.ref 61), none, none, some (.int x3), some (.int x4)], [], 0, 0) (I, J, sm_rf t d) := by
  unfold F_Mo_expression_37 at h
  refine sm_W.run (sm_C_mono D) 4 (G := True) (fr' := (if decide (¬ x4 = (21 : Int32)) = true then 43 else 41, [some (.ref 61), none, none, some (.int x3), some (.int x4)], [.ref 61], 0, 0)) (M' := (I, J, sm_rf t d)) rfl trivial (sm_W.iteD h (fun hc h => ?_) (fun hc h => ?_))
  · refine sm_W.run (sm_C_mono D) 1 (G := True) (fr' := (44, [some (.ref 61), none, none, some (.int x3), some (.int x4)], [.int (1 : Int32), .ref 61], 0, 0)) (M' := (I, J, sm_rf t d)) rfl trivial ?_
    exact (G_Mo_expression_44 hD h hQ hk23)
  · refine sm_W.run (sm_C_mono D) 2 (G := True) (fr' := (44, [some (.ref 61), none, none, some (.int x3), some (.int x4)], [.int (2 : Int32), .ref 61], 0, 0)) (M' := (I, J, sm_rf t d)) rfl trivial ?_
    exact (G_Mo_expression_44 hD h hQ hk23)
theorem G_Mo_expression_122 {X : Nat × (Nat → Int32)} {t d D : Nat} {Q : sm_Q} {I : sm_MI} {J : sm_MJ} {k23 : Int32 → sm_MI → sm_MJ → Option (sm_MI × sm_MJ)} {x3 : Int32} {s1 : Int32} {Iz : sm_MI} {Jz : sm_MJ}
    (hD : 5 ≤ D) (h : F_Mo_expression_122 k23 x3 s1 I J = some (Iz, Jz)) (hQ : Q (.inl none) (Iz, Jz, sm_rf t d)) (hk23 : ∀ (x3 : Int32) (I : sm_MI) (J : sm_MJ), k23 x3 I J = some (Iz, Jz) → sm_W sm_sh X (sm_C sm_sh X sm_P D) me_186 Q (23, [some (.ref 61), none, none, some (.int x3), none], [], 0, 0) (I, J, sm_rf t d)) : sm_W sm_sh X (sm_C sm_sh X sm_P D) me_186 Q (122, [some (.ref 61), none, none, some (.int x3), none], [.int s1, .ref 61], 0, 0) (I, J, sm_rf t d) := by
  unfold F_Mo_expression_122 at h
  obtain ⟨I1, hc, h⟩ := sd_q1_go h
  refine sm_W.cal (sm_C_mono D) (y := 180) (as := [.ref 61, .int s1]) (fr' := (123, [some (.ref 61), none, none, some (.int x3), none], [], 0, 0)) rfl (T_Mo_waitsFor (by omega) hc ?_)
  show sm_W sm_sh X (sm_C sm_sh X sm_P D) me_186 Q (123, [some (.ref 61), none, none, some (.int x3), none], [], 0, 0) (I1, J, sm_rf t d)
  refine sm_W.run (sm_C_mono D) 1 (G := True) (fr' := (124, [some (.ref 61), none, none, some (.int x3), none], [.ref 61], 0, 0)) (M' := (I1, J, sm_rf t d)) rfl trivial ?_
  obtain ⟨I2, J3, hc, h⟩ := sd_q2_go h
  refine sm_W.cal (sm_C_mono D) (y := 167) (as := [.ref 61]) (fr' := (125, [some (.ref 61), none, none, some (.int x3), none], [], 0, 0)) rfl (T_Mo_goes (by omega) hc ?_)
  show sm_W sm_sh X (sm_C sm_sh X sm_P D) me_186 Q (125, [some (.ref 61), none, none, some (.int x3), none], [], 0, 0) (I2, J3, sm_rf t d)
  refine sm_W.run (sm_C_mono D) 2 (G := True) (fr' := (127, [some (.ref 61), none, none, some (.int x3), none], [.int (0 : Int32), .ref 61], 0, 0)) (M' := (I2, J3, sm_rf t d)) rfl trivial ?_
  obtain ⟨I4, J5, hc, h⟩ := sd_q2_go h
  refine sm_W.cal (sm_C_mono D) (y := 183) (as := [.ref 61, .int (0 : Int32)]) (fr' := (128, [some (.ref 61), none, none, some (.int x3), none], [], 0, 0)) rfl (T_Mo_operand (by omega) hc ?_)
  show sm_W sm_sh X (sm_C sm_sh X sm_P D) me_186 Q (128, [some (.ref 61), none, none, some (.int x3), none], [], 0, 0) (I4, J5, sm_rf t d)
  refine sm_W.run (sm_C_mono D) 2 (G := True) (fr' := (23, [some (.ref 61), none, none, some (.int x3), none], [], 0, 0)) (M' := (I4, J5, sm_rf t d)) rfl trivial ?_
  exact (hk23 _ _ _ h)
theorem G_Mo_expression_111 {X : Nat × (Nat → Int32)} {t d D : Nat} {Q : sm_Q} {I : sm_MI} {J : sm_MJ} {k23 : Int32 → sm_MI → sm_MJ → Option (sm_MI × sm_MJ)} {x3 : Int32} {Iz : sm_MI} {Jz : sm_MJ}
    (hD : 5 ≤ D) (h : F_Mo_expression_111 k23 x3 I J = some (Iz, Jz)) (hQ : Q (.inl none) (Iz, Jz, sm_rf t d)) (hk23 : ∀ (x3 : Int32) (I : sm_MI) (J : sm_MJ), k23 x3 I J = some (Iz, Jz) → sm_W sm_sh X (sm_C sm_sh X sm_P D) me_186 Q (23, [some (.ref 61), none, none, some (.int x3), none], [], 0, 0) (I, J, sm_rf t d)) : sm_W sm_sh X (sm_C sm_sh X sm_P D) me_186 Q (111, [some (.ref 61), none, none, some (.int x3), none], [], 0, 0) (I, J, sm_rf t d) := by
  unfold F_Mo_expression_111 at h
  refine sm_W.run (sm_C_mono D) 2 (G := True) (fr' := (113, [some (.ref 61), none, none, some (.int x3), none], [.int (5 : Int32), .ref 61], 0, 0)) (M' := (I, J, sm_rf t d)) rfl trivial ?_
  obtain ⟨I1, hc, h⟩ := sd_q1_go h
  refine sm_W.cal (sm_C_mono D) (y := 179) (as := [.ref 61, .int (5 : Int32)]) (fr' := (114, [some (.ref 61), none, none, some (.int x3), none], [], 0, 0)) rfl (T_Mo_drops (by omega) hc ?_)
  show sm_W sm_sh X (sm_C sm_sh X sm_P D) me_186 Q (114, [some (.ref 61), none, none, some (.int x3), none], [], 0, 0) (I1, J, sm_rf t d)
  refine sm_W.run (sm_C_mono D) 3 (G := True) (fr' := (117, [some (.ref 61), none, none, some (.int x3), none], [.int (43 : Int32), .ref 61, .ref 61], 0, 0)) (M' := (I1, J, sm_rf t d)) rfl trivial ?_
  obtain ⟨r2, hc, h⟩ := sd_q1_go h
  refine sm_W.cal (sm_C_mono D) (y := 173) (as := [.ref 61, .int (43 : Int32)]) (fr' := (118, [some (.ref 61), none, none, some (.int x3), none], [.ref 61], 0, 0)) rfl (T_Mo_isSign (by omega) hc ?_)
  show sm_W sm_sh X (sm_C sm_sh X sm_P D) me_186 Q (118, [some (.ref 61), none, none, some (.int x3), none], [.int r2, .ref 61], 0, 0) (I1, J, sm_rf t d)
  refine sm_W.run (sm_C_mono D) 1 (G := True) (fr' := (if decide (r2 = 0) = true then 121 else 119, [some (.ref 61), none, none, some (.int x3), none], [.ref 61], 0, 0)) (M' := (I1, J, sm_rf t d)) rfl trivial (sm_W.iteD h (fun hc h => ?_) (fun hc h => ?_))
  · refine sm_W.run (sm_C_mono D) 1 (G := True) (fr' := (122, [some (.ref 61), none, none, some (.int x3), none], [.int (9 : Int32), .ref 61], 0, 0)) (M' := (I1, J, sm_rf t d)) rfl trivial ?_
    exact (G_Mo_expression_122 hD h hQ hk23)
  · refine sm_W.run (sm_C_mono D) 2 (G := True) (fr' := (122, [some (.ref 61), none, none, some (.int x3), none], [.int (8 : Int32), .ref 61], 0, 0)) (M' := (I1, J, sm_rf t d)) rfl trivial ?_
    exact (G_Mo_expression_122 hD h hQ hk23)
theorem G_Mo_expression_148 {X : Nat × (Nat → Int32)} {t d D : Nat} {Q : sm_Q} {I : sm_MI} {J : sm_MJ} {k23 : Int32 → sm_MI → sm_MJ → Option (sm_MI × sm_MJ)} {x3 : Int32} {s1 : Int32} {Iz : sm_MI} {Jz : sm_MJ}
    (hD : 5 ≤ D) (h : F_Mo_expression_148 k23 x3 s1 I J = some (Iz, Jz)) (hQ : Q (.inl none) (Iz, Jz, sm_rf t d)) (hk23 : ∀ (x3 : Int32) (I : sm_MI) (J : sm_MJ), k23 x3 I J = some (Iz, Jz) → sm_W sm_sh X (sm_C sm_sh X sm_P D) me_186 Q (23, [some (.ref 61), none, none, some (.int x3), none], [], 0, 0) (I, J, sm_rf t d)) : sm_W sm_sh X (sm_C sm_sh X sm_P D) me_186 Q (148, [some (.ref 61), none, none, some (.int x3), none], [.int s1, .ref 61], 0, 0) (I, J, sm_rf t d) := by
  unfold F_Mo_expression_148 at h
  obtain ⟨I1, hc, h⟩ := sd_q1_go h
  refine sm_W.cal (sm_C_mono D) (y := 180) (as := [.ref 61, .int s1]) (fr' := (149, [some (.ref 61), none, none, some (.int x3), none], [], 0, 0)) rfl (T_Mo_waitsFor (by omega) hc ?_)
  show sm_W sm_sh X (sm_C sm_sh X sm_P D) me_186 Q (149, [some (.ref 61), none, none, some (.int x3), none], [], 0, 0) (I1, J, sm_rf t d)
  refine sm_W.run (sm_C_mono D) 1 (G := True) (fr' := (150, [some (.ref 61), none, none, some (.int x3), none], [.ref 61], 0, 0)) (M' := (I1, J, sm_rf t d)) rfl trivial ?_
  obtain ⟨I2, J3, hc, h⟩ := sd_q2_go h
  refine sm_W.cal (sm_C_mono D) (y := 167) (as := [.ref 61]) (fr' := (151, [some (.ref 61), none, none, some (.int x3), none], [], 0, 0)) rfl (T_Mo_goes (by omega) hc ?_)
  show sm_W sm_sh X (sm_C sm_sh X sm_P D) me_186 Q (151, [some (.ref 61), none, none, some (.int x3), none], [], 0, 0) (I2, J3, sm_rf t d)
  refine sm_W.run (sm_C_mono D) 2 (G := True) (fr' := (153, [some (.ref 61), none, none, some (.int x3), none], [.int (0 : Int32), .ref 61], 0, 0)) (M' := (I2, J3, sm_rf t d)) rfl trivial ?_
  obtain ⟨I4, J5, hc, h⟩ := sd_q2_go h
  refine sm_W.cal (sm_C_mono D) (y := 183) (as := [.ref 61, .int (0 : Int32)]) (fr' := (154, [some (.ref 61), none, none, some (.int x3), none], [], 0, 0)) rfl (T_Mo_operand (by omega) hc ?_)
  show sm_W sm_sh X (sm_C sm_sh X sm_P D) me_186 Q (154, [some (.ref 61), none, none, some (.int x3), none], [], 0, 0) (I4, J5, sm_rf t d)
  refine sm_W.run (sm_C_mono D) 2 (G := True) (fr' := (23, [some (.ref 61), none, none, some (.int x3), none], [], 0, 0)) (M' := (I4, J5, sm_rf t d)) rfl trivial ?_
  exact (hk23 _ _ _ h)
theorem G_Mo_expression_137 {X : Nat × (Nat → Int32)} {t d D : Nat} {Q : sm_Q} {I : sm_MI} {J : sm_MJ} {k23 : Int32 → sm_MI → sm_MJ → Option (sm_MI × sm_MJ)} {x3 : Int32} {Iz : sm_MI} {Jz : sm_MJ}
    (hD : 5 ≤ D) (h : F_Mo_expression_137 k23 x3 I J = some (Iz, Jz)) (hQ : Q (.inl none) (Iz, Jz, sm_rf t d)) (hk23 : ∀ (x3 : Int32) (I : sm_MI) (J : sm_MJ), k23 x3 I J = some (Iz, Jz) → sm_W sm_sh X (sm_C sm_sh X sm_P D) me_186 Q (23, [some (.ref 61), none, none, some (.int x3), none], [], 0, 0) (I, J, sm_rf t d)) : sm_W sm_sh X (sm_C sm_sh X sm_P D) me_186 Q (137, [some (.ref 61), none, none, some (.int x3), none], [], 0, 0) (I, J, sm_rf t d) := by
  unfold F_Mo_expression_137 at h
  refine sm_W.run (sm_C_mono D) 2 (G := True) (fr' := (139, [some (.ref 61), none, none, some (.int x3), none], [.int (6 : Int32), .ref 61], 0, 0)) (M' := (I, J, sm_rf t d)) rfl trivial ?_
  obtain ⟨I1, hc, h⟩ := sd_q1_go h
  refine sm_W.cal (sm_C_mono D) (y := 179) (as := [.ref 61, .int (6 : Int32)]) (fr' := (140, [some (.ref 61), none, none, some (.int x3), none], [], 0, 0)) rfl (T_Mo_drops (by omega) hc ?_)
  show sm_W sm_sh X (sm_C sm_sh X sm_P D) me_186 Q (140, [some (.ref 61), none, none, some (.int x3), none], [], 0, 0) (I1, J, sm_rf t d)
  refine sm_W.run (sm_C_mono D) 3 (G := True) (fr' := (143, [some (.ref 61), none, none, some (.int x3), none], [.int (42 : Int32), .ref 61, .ref 61], 0, 0)) (M' := (I1, J, sm_rf t d)) rfl trivial ?_
  obtain ⟨r2, hc, h⟩ := sd_q1_go h
  refine sm_W.cal (sm_C_mono D) (y := 173) (as := [.ref 61, .int (42 : Int32)]) (fr' := (144, [some (.ref 61), none, none, some (.int x3), none], [.ref 61], 0, 0)) rfl (T_Mo_isSign (by omega) hc ?_)
  show sm_W sm_sh X (sm_C sm_sh X sm_P D) me_186 Q (144, [some (.ref 61), none, none, some (.int x3), none], [.int r2, .ref 61], 0, 0) (I1, J, sm_rf t d)
  refine sm_W.run (sm_C_mono D) 1 (G := True) (fr' := (if decide (r2 = 0) = true then 147 else 145, [some (.ref 61), none, none, some (.int x3), none], [.ref 61], 0, 0)) (M' := (I1, J, sm_rf t d)) rfl trivial (sm_W.iteD h (fun hc h => ?_) (fun hc h => ?_))
  · refine sm_W.run (sm_C_mono D) 1 (G := True) (fr' := (148, [some (.ref 61), none, none, some (.int x3), none], [.int (11 : Int32), .ref 61], 0, 0)) (M' := (I1, J, sm_rf t d)) rfl trivial ?_
    exact (G_Mo_expression_148 hD h hQ hk23)
  · refine sm_W.run (sm_C_mono D) 2 (G := True) (fr' := (148, [some (.ref 61), none, none, some (.int x3), none], [.int (10 : Int32), .ref 61], 0, 0)) (M' := (I1, J, sm_rf t d)) rfl trivial ?_
    exact (G_Mo_expression_148 hD h hQ hk23)
theorem G_Mo_expression_103 {X : Nat × (Nat → Int32)} {t d D : Nat} {Q : sm_Q} {I : sm_MI} {J : sm_MJ} {k23 : Int32 → sm_MI → sm_MJ → Option (sm_MI × sm_MJ)} {x3 : Int32} {Iz : sm_MI} {Jz : sm_MJ}
    (hD : 5 ≤ D) (h : F_Mo_expression_103 k23 x3 I J = some (Iz, Jz)) (hQ : Q (.inl none) (Iz, Jz, sm_rf t d)) (hk23 : ∀ (x3 : Int32) (I : sm_MI) (J : sm_MJ), k23 x3 I J = some (Iz, Jz) → sm_W sm_sh X (sm_C sm_sh X sm_P D) me_186 Q (23, [some (.ref 61), none, none, some (.int x3), none], [], 0, 0) (I, J, sm_rf t d)) : sm_W sm_sh X (sm_C sm_sh X sm_P D) me_186 Q (103, [some (.ref 61), none, none, some (.int x3), none], [], 0, 0) (I, J, sm_rf t d) := by
  unfold F_Mo_expression_103 at h
  refine sm_W.run (sm_C_mono D) 2 (G := True) (fr' := (105, [some (.ref 61), none, none, some (.int x3), none], [.int (43 : Int32), .ref 61], 0, 0)) (M' := (I, J, sm_rf t d)) rfl trivial ?_
  obtain ⟨r1, hc, h⟩ := sd_q1_go h
  refine sm_W.cal (sm_C_mono D) (y := 173) (as := [.ref 61, .int (43 : Int32)]) (fr' := (106, [some (.ref 61), none, none, some (.int x3), none], [], 0, 0)) rfl (T_Mo_isSign (by omega) hc ?_)
  show sm_W sm_sh X (sm_C sm_sh X sm_P D) me_186 Q (106, [some (.ref 61), none, none, some (.int x3), none], [.int r1], 0, 0) (I, J, sm_rf t d)
  refine sm_W.run (sm_C_mono D) 1 (G := True) (fr' := (if decide (¬ r1 = 0) = true then 111 else 107, [some (.ref 61), none, none, some (.int x3), none], [], 0, 0)) (M' := (I, J, sm_rf t d)) rfl trivial (sm_W.iteD h (fun hc h => ?_) (fun hc h => ?_))
  · exact (G_Mo_expression_111 hD h hQ hk23)
  · refine sm_W.run (sm_C_mono D) 2 (G := True) (fr' := (109, [some (.ref 61), none, none, some (.int x3), none], [.int (45 : Int32), .ref 61], 0, 0)) (M' := (I, J, sm_rf t d)) rfl trivial ?_
    obtain ⟨r2, hc, h⟩ := sd_q1_go h
    refine sm_W.cal (sm_C_mono D) (y := 173) (as := [.ref 61, .int (45 : Int32)]) (fr' := (110, [some (.ref 61), none, none, some (.int x3), none], [], 0, 0)) rfl (T_Mo_isSign (by omega) hc ?_)
    show sm_W sm_sh X (sm_C sm_sh X sm_P D) me_186 Q (110, [some (.ref 61), none, none, some (.int x3), none], [.int r2], 0, 0) (I, J, sm_rf t d)
    refine sm_W.run (sm_C_mono D) 1 (G := True) (fr' := (if decide (r2 = 0) = true then 129 else 111, [some (.ref 61), none, none, some (.int x3), none], [], 0, 0)) (M' := (I, J, sm_rf t d)) rfl trivial (sm_W.iteD h (fun hc h => ?_) (fun hc h => ?_))
    · refine sm_W.run (sm_C_mono D) 2 (G := True) (fr' := (131, [some (.ref 61), none, none, some (.int x3), none], [.int (42 : Int32), .ref 61], 0, 0)) (M' := (I, J, sm_rf t d)) rfl trivial ?_
      obtain ⟨r3, hc, h⟩ := sd_q1_go h
      refine sm_W.cal (sm_C_mono D) (y := 173) (as := [.ref 61, .int (42 : Int32)]) (fr' := (132, [some (.ref 61), none, none, some (.int x3), none], [], 0, 0)) rfl (T_Mo_isSign (by omega) hc ?_)
      show sm_W sm_sh X (sm_C sm_sh X sm_P D) me_186 Q (132, [some (.ref 61), none, none, some (.int x3), none], [.int r3], 0, 0) (I, J, sm_rf t d)
      refine sm_W.run (sm_C_mono D) 1 (G := True) (fr' := (if decide (¬ r3 = 0) = true then 137 else 133, [some (.ref 61), none, none, some (.int x3), none], [], 0, 0)) (M' := (I, J, sm_rf t d)) rfl trivial (sm_W.iteD h (fun hc h => ?_) (fun hc h => ?_))
      · exact (G_Mo_expression_137 hD h hQ hk23)
      · refine sm_W.run (sm_C_mono D) 2 (G := True) (fr' := (135, [some (.ref 61), none, none, some (.int x3), none], [.int (47 : Int32), .ref 61], 0, 0)) (M' := (I, J, sm_rf t d)) rfl trivial ?_
        obtain ⟨r4, hc, h⟩ := sd_q1_go h
        refine sm_W.cal (sm_C_mono D) (y := 173) (as := [.ref 61, .int (47 : Int32)]) (fr' := (136, [some (.ref 61), none, none, some (.int x3), none], [], 0, 0)) rfl (T_Mo_isSign (by omega) hc ?_)
        show sm_W sm_sh X (sm_C sm_sh X sm_P D) me_186 Q (136, [some (.ref 61), none, none, some (.int x3), none], [.int r4], 0, 0) (I, J, sm_rf t d)
        refine sm_W.run (sm_C_mono D) 1 (G := True) (fr' := (if decide (r4 = 0) = true then 155 else 137, [some (.ref 61), none, none, some (.int x3), none], [], 0, 0)) (M' := (I, J, sm_rf t d)) rfl trivial (sm_W.iteD h (fun hc h => ?_) (fun hc h => ?_))
        · refine sm_W.run (sm_C_mono D) 2 (G := True) (fr' := (157, [some (.ref 61), none, none, some (.int x3), none], [.int (41 : Int32), .ref 61], 0, 0)) (M' := (I, J, sm_rf t d)) rfl trivial ?_
          obtain ⟨r5, hc, h⟩ := sd_q1_go h
          refine sm_W.cal (sm_C_mono D) (y := 173) (as := [.ref 61, .int (41 : Int32)]) (fr' := (158, [some (.ref 61), none, none, some (.int x3), none], [], 0, 0)) rfl (T_Mo_isSign (by omega) hc ?_)
          show sm_W sm_sh X (sm_C sm_sh X sm_P D) me_186 Q (158, [some (.ref 61), none, none, some (.int x3), none], [.int r5], 0, 0) (I, J, sm_rf t d)
          refine sm_W.run (sm_C_mono D) 1 (G := True) (fr' := (if decide (r5 = 0) = true then 165 else 159, [some (.ref 61), none, none, some (.int x3), none], [], 0, 0)) (M' := (I, J, sm_rf t d)) rfl trivial (sm_W.iteD h (fun hc h => ?_) (fun hc h => ?_))
          · refine sm_W.run (sm_C_mono D) 3 (G := True) (fr' := (23, [some (.ref 61), none, none, some (.int (0 : Int32)), none], [], 0, 0)) (M' := (I, J, sm_rf t d)) rfl trivial ?_
            exact (hk23 _ _ _ h)
          · refine sm_W.run (sm_C_mono D) 1 (G := True) (fr' := (160, [some (.ref 61), none, none, some (.int x3), none], [.ref 61], 0, 0)) (M' := (I, J, sm_rf t d)) rfl trivial ?_
            obtain ⟨r6, hc, h⟩ := sd_q1_go h
            refine sm_W.cal (sm_C_mono D) (y := 184) (as := [.ref 61]) (fr' := (161, [some (.ref 61), none, none, some (.int x3), none], [], 0, 0)) rfl (T_Mo_isOpened (by omega) hc ?_)
            show sm_W sm_sh X (sm_C sm_sh X sm_P D) me_186 Q (161, [some (.ref 61), none, none, some (.int x3), none], [.int r6], 0, 0) (I, J, sm_rf t d)
            refine sm_W.run (sm_C_mono D) 1 (G := True) (fr' := (if decide (r6 = 0) = true then 165 else 162, [some (.ref 61), none, none, some (.int x3), none], [], 0, 0)) (M' := (I, J, sm_rf t d)) rfl trivial (sm_W.iteD h (fun hc h => ?_) (fun hc h => ?_))
            · refine sm_W.run (sm_C_mono D) 3 (G := True) (fr' := (23, [some (.ref 61), none, none, some (.int (0 : Int32)), none], [], 0, 0)) (M' := (I, J, sm_rf t d)) rfl trivial ?_
              exact (hk23 _ _ _ h)
            · refine sm_W.run (sm_C_mono D) 1 (G := True) (fr' := (163, [some (.ref 61), none, none, some (.int x3), none], [.ref 61], 0, 0)) (M' := (I, J, sm_rf t d)) rfl trivial ?_
              obtain ⟨I7, J8, hc, h⟩ := sd_q2_go h
              refine sm_W.cal (sm_C_mono D) (y := 185) (as := [.ref 61]) (fr' := (164, [some (.ref 61), none, none, some (.int x3), none], [], 0, 0)) rfl (T_Mo_closes (by omega) hc ?_)
              show sm_W sm_sh X (sm_C sm_sh X sm_P D) me_186 Q (164, [some (.ref 61), none, none, some (.int x3), none], [], 0, 0) (I7, J8, sm_rf t d)
              refine sm_W.run (sm_C_mono D) 2 (G := True) (fr' := (23, [some (.ref 61), none, none, some (.int x3), none], [], 0, 0)) (M' := (I7, J8, sm_rf t d)) rfl trivial ?_
              exact (hk23 _ _ _ h)
        · exact (G_Mo_expression_137 hD h hQ hk23)
    · exact (G_Mo_expression_111 hD h hQ hk23)
theorem G_Mo_expression_90 {X : Nat × (Nat → Int32)} {t d D : Nat} {Q : sm_Q} {I : sm_MI} {J : sm_MJ} {k23 : Int32 → sm_MI → sm_MJ → Option (sm_MI × sm_MJ)} {x3 : Int32} {s1 : Int32} {Iz : sm_MI} {Jz : sm_MJ}
    (hD : 5 ≤ D) (h : F_Mo_expression_90 k23 x3 s1 I J = some (Iz, Jz)) (hQ : Q (.inl none) (Iz, Jz, sm_rf t d)) (hk23 : ∀ (x3 : Int32) (I : sm_MI) (J : sm_MJ), k23 x3 I J = some (Iz, Jz) → sm_W sm_sh X (sm_C sm_sh X sm_P D) me_186 Q (23, [some (.ref 61), none, none, some (.int x3), none], [], 0, 0) (I, J, sm_rf t d)) : sm_W sm_sh X (sm_C sm_sh X sm_P D) me_186 Q (90, [some (.ref 61), none, none, some (.int x3), none], [.int s1, .ref 61], 0, 0) (I, J, sm_rf t d) := by
  unfold F_Mo_expression_90 at h
  obtain ⟨I1, hc, h⟩ := sd_q1_go h
  refine sm_W.cal (sm_C_mono D) (y := 180) (as := [.ref 61, .int s1]) (fr' := (91, [some (.ref 61), none, none, some (.int x3), none], [], 0, 0)) rfl (T_Mo_waitsFor (by omega) hc ?_)
  show sm_W sm_sh X (sm_C sm_sh X sm_P D) me_186 Q (91, [some (.ref 61), none, none, some (.int x3), none], [], 0, 0) (I1, J, sm_rf t d)
  obtain ⟨g2, h⟩ := sd_gu_go h
  refine sm_W.runL (sm_C_mono D) 6 (G := sm_in (I1 61 34) 9 = true ∧ True) (e := (sd_up I1 85 (Int32.toNatClampNeg (I1 61 34)) (vp_nar .boolean (1 : Int32)))) (fr' := fun _ => (97, [some (.ref 61), none, none, some (.int x3), none], [], 0, 0)) (M' := fun I3 => (I3, J, sm_rf t d)) rfl h ⟨g2, trivial⟩ (fun I3 h => ?_)
  refine sm_W.run (sm_C_mono D) 1 (G := True) (fr' := (98, [some (.ref 61), none, none, some (.int x3), none], [.ref 61], 0, 0)) (M' := (I3, J, sm_rf t d)) rfl trivial ?_
  obtain ⟨I4, J5, hc, h⟩ := sd_q2_go h
  refine sm_W.cal (sm_C_mono D) (y := 167) (as := [.ref 61]) (fr' := (99, [some (.ref 61), none, none, some (.int x3), none], [], 0, 0)) rfl (T_Mo_goes (by omega) hc ?_)
  show sm_W sm_sh X (sm_C sm_sh X sm_P D) me_186 Q (99, [some (.ref 61), none, none, some (.int x3), none], [], 0, 0) (I4, J5, sm_rf t d)
  refine sm_W.run (sm_C_mono D) 2 (G := True) (fr' := (101, [some (.ref 61), none, none, some (.int x3), none], [.int (0 : Int32), .ref 61], 0, 0)) (M' := (I4, J5, sm_rf t d)) rfl trivial ?_
  obtain ⟨I6, J7, hc, h⟩ := sd_q2_go h
  refine sm_W.cal (sm_C_mono D) (y := 183) (as := [.ref 61, .int (0 : Int32)]) (fr' := (102, [some (.ref 61), none, none, some (.int x3), none], [], 0, 0)) rfl (T_Mo_operand (by omega) hc ?_)
  show sm_W sm_sh X (sm_C sm_sh X sm_P D) me_186 Q (102, [some (.ref 61), none, none, some (.int x3), none], [], 0, 0) (I6, J7, sm_rf t d)
  refine sm_W.run (sm_C_mono D) 2 (G := True) (fr' := (23, [some (.ref 61), none, none, some (.int x3), none], [], 0, 0)) (M' := (I6, J7, sm_rf t d)) rfl trivial ?_
  exact (hk23 _ _ _ h)
theorem G_Mo_expression_73 {X : Nat × (Nat → Int32)} {t d D : Nat} {Q : sm_Q} {I : sm_MI} {J : sm_MJ} {k23 : Int32 → sm_MI → sm_MJ → Option (sm_MI × sm_MJ)} {x3 : Int32} {Iz : sm_MI} {Jz : sm_MJ}
    (hD : 5 ≤ D) (h : F_Mo_expression_73 k23 x3 I J = some (Iz, Jz)) (hQ : Q (.inl none) (Iz, Jz, sm_rf t d)) (hk23 : ∀ (x3 : Int32) (I : sm_MI) (J : sm_MJ), k23 x3 I J = some (Iz, Jz) → sm_W sm_sh X (sm_C sm_sh X sm_P D) me_186 Q (23, [some (.ref 61), none, none, some (.int x3), none], [], 0, 0) (I, J, sm_rf t d)) : sm_W sm_sh X (sm_C sm_sh X sm_P D) me_186 Q (73, [some (.ref 61), none, none, some (.int x3), none], [], 0, 0) (I, J, sm_rf t d) := by
  unfold F_Mo_expression_73 at h
  obtain ⟨g1, h⟩ := sd_gu_go h
  refine sm_W.run (sm_C_mono D) 6 (G := sm_in (I 61 34) 9 = true ∧ True) (fr' := (if decide (¬ (I 85 (Int32.toNatClampNeg (I 61 34))) = 0) = true then 103 else 79, [some (.ref 61), none, none, some (.int x3), none], [], 0, 0)) (M' := (I, J, sm_rf t d)) rfl ⟨g1, trivial⟩ (sm_W.iteD h (fun hc h => ?_) (fun hc h => ?_))
  · exact (G_Mo_expression_103 hD h hQ hk23)
  · refine sm_W.run (sm_C_mono D) 2 (G := True) (fr' := (81, [some (.ref 61), none, none, some (.int x3), none], [.int (4 : Int32), .ref 61], 0, 0)) (M' := (I, J, sm_rf t d)) rfl trivial ?_
    obtain ⟨I2, hc, h⟩ := sd_q1_go h
    refine sm_W.cal (sm_C_mono D) (y := 179) (as := [.ref 61, .int (4 : Int32)]) (fr' := (82, [some (.ref 61), none, none, some (.int x3), none], [], 0, 0)) rfl (T_Mo_drops (by omega) hc ?_)
    show sm_W sm_sh X (sm_C sm_sh X sm_P D) me_186 Q (82, [some (.ref 61), none, none, some (.int x3), none], [], 0, 0) (I2, J, sm_rf t d)
    refine sm_W.run (sm_C_mono D) 3 (G := True) (fr' := (85, [some (.ref 61), none, none, some (.int x3), none], [.int (60 : Int32), .ref 61, .ref 61], 0, 0)) (M' := (I2, J, sm_rf t d)) rfl trivial ?_
    obtain ⟨r3, hc, h⟩ := sd_q1_go h
    refine sm_W.cal (sm_C_mono D) (y := 173) (as := [.ref 61, .int (60 : Int32)]) (fr' := (86, [some (.ref 61), none, none, some (.int x3), none], [.ref 61], 0, 0)) rfl (T_Mo_isSign (by omega) hc ?_)
    show sm_W sm_sh X (sm_C sm_sh X sm_P D) me_186 Q (86, [some (.ref 61), none, none, some (.int x3), none], [.int r3, .ref 61], 0, 0) (I2, J, sm_rf t d)
    refine sm_W.run (sm_C_mono D) 1 (G := True) (fr' := (if decide (r3 = 0) = true then 89 else 87, [some (.ref 61), none, none, some (.int x3), none], [.ref 61], 0, 0)) (M' := (I2, J, sm_rf t d)) rfl trivial (sm_W.iteD h (fun hc h => ?_) (fun hc h => ?_))
    · refine sm_W.run (sm_C_mono D) 1 (G := True) (fr' := (90, [some (.ref 61), none, none, some (.int x3), none], [.int (7 : Int32), .ref 61], 0, 0)) (M' := (I2, J, sm_rf t d)) rfl trivial ?_
      exact (G_Mo_expression_90 hD h hQ hk23)
    · refine sm_W.run (sm_C_mono D) 2 (G := True) (fr' := (90, [some (.ref 61), none, none, some (.int x3), none], [.int (6 : Int32), .ref 61], 0, 0)) (M' := (I2, J, sm_rf t d)) rfl trivial ?_
      exact (G_Mo_expression_90 hD h hQ hk23)
theorem G_Mo_expression_23B {X : Nat × (Nat → Int32)} {t d D : Nat} {Q : sm_Q} {I : sm_MI} {J : sm_MJ} {k23 : Int32 → sm_MI → sm_MJ → Option (sm_MI × sm_MJ)} {x3 : Int32} {Iz : sm_MI} {Jz : sm_MJ}
    (hD : 5 ≤ D) (h : F_Mo_expression_23B k23 x3 I J = some (Iz, Jz)) (hQ : Q (.inl none) (Iz, Jz, sm_rf t d)) (hk23 : ∀ (x3 : Int32) (I : sm_MI) (J : sm_MJ), k23 x3 I J = some (Iz, Jz) → sm_W sm_sh X (sm_C sm_sh X sm_P D) me_186 Q (23, [some (.ref 61), none, none, some (.int x3), none], [], 0, 0) (I, J, sm_rf t d)) : sm_W sm_sh X (sm_C sm_sh X sm_P D) me_186 Q (23, [some (.ref 61), none, none, some (.int x3), none], [], 0, 0) (I, J, sm_rf t d) := by
  unfold F_Mo_expression_23B at h
  refine sm_W.run (sm_C_mono D) 2 (G := True) (fr' := (if decide (x3 = 0) = true then 168 else 25, [some (.ref 61), none, none, some (.int x3), none], [], 0, 0)) (M' := (I, J, sm_rf t d)) rfl trivial (sm_W.iteD h (fun hc h => ?_) (fun hc h => ?_))
  · exact sm_W.forget (L' := [some (.ref 61), none, none, none, none]) ⟨rfl, trivial⟩ (G_Mo_expression_168 hD h hQ)
  · refine sm_W.run (sm_C_mono D) 1 (G := True) (fr' := (26, [some (.ref 61), none, none, some (.int x3), none], [.ref 61], 0, 0)) (M' := (I, J, sm_rf t d)) rfl trivial ?_
    obtain ⟨r1, hc, h⟩ := sd_q1_go h
    refine sm_W.cal (sm_C_mono D) (y := 172) (as := [.ref 61]) (fr' := (27, [some (.ref 61), none, none, some (.int x3), none], [], 0, 0)) rfl (T_Mo_isGood (by omega) hc ?_)
    show sm_W sm_sh X (sm_C sm_sh X sm_P D) me_186 Q (27, [some (.ref 61), none, none, some (.int x3), none], [.int r1], 0, 0) (I, J, sm_rf t d)
    refine sm_W.run (sm_C_mono D) 1 (G := True) (fr' := (if decide (r1 = 0) = true then 168 else 28, [some (.ref 61), none, none, some (.int x3), none], [], 0, 0)) (M' := (I, J, sm_rf t d)) rfl trivial (sm_W.iteD h (fun hc h => ?_) (fun hc h => ?_))
    · exact sm_W.forget (L' := [some (.ref 61), none, none, none, none]) ⟨rfl, trivial⟩ (G_Mo_expression_168 hD h hQ)
    · refine sm_W.run (sm_C_mono D) 1 (G := True) (fr' := (29, [some (.ref 61), none, none, some (.int x3), none], [.ref 61], 0, 0)) (M' := (I, J, sm_rf t d)) rfl trivial ?_
      obtain ⟨r2, hc, h⟩ := sd_q1_go h
      refine sm_W.cal (sm_C_mono D) (y := 170) (as := [.ref 61]) (fr' := (30, [some (.ref 61), none, none, some (.int x3), none], [], 0, 0)) rfl (T_Mo_knownWord (by omega) hc ?_)
      show sm_W sm_sh X (sm_C sm_sh X sm_P D) me_186 Q (30, [some (.ref 61), none, none, some (.int x3), none], [.int r2], 0, 0) (I, J, sm_rf t d)
      refine sm_W.run (sm_C_mono D) 4 (G := True) (fr' := (if decide (r2 = (21 : Int32)) = true then 37 else 34, [some (.ref 61), none, none, some (.int x3), some (.int r2)], [], 0, 0)) (M' := (I, J, sm_rf t d)) rfl trivial (sm_W.iteD h (fun hc h => ?_) (fun hc h => ?_))
      · exact (G_Mo_expression_37 hD h hQ hk23)
      · refine sm_W.run (sm_C_mono D) 3 (G := True) (fr' := (if decide (¬ r2 = (22 : Int32)) = true then 65 else 37, [some (.ref 61), none, none, some (.int x3), some (.int r2)], [], 0, 0)) (M' := (I, J, sm_rf t d)) rfl trivial (sm_W.iteD h (fun hc h => ?_) (fun hc h => ?_))
        · refine sm_W.run (sm_C_mono D) 2 (G := True) (fr' := (67, [some (.ref 61), none, none, some (.int x3), some (.int r2)], [.int (60 : Int32), .ref 61], 0, 0)) (M' := (I, J, sm_rf t d)) rfl trivial ?_
          obtain ⟨r3, hc, h⟩ := sd_q1_go h
          refine sm_W.cal (sm_C_mono D) (y := 173) (as := [.ref 61, .int (60 : Int32)]) (fr' := (68, [some (.ref 61), none, none, some (.int x3), some (.int r2)], [], 0, 0)) rfl (T_Mo_isSign (by omega) hc ?_)
          show sm_W sm_sh X (sm_C sm_sh X sm_P D) me_186 Q (68, [some (.ref 61), none, none, some (.int x3), some (.int r2)], [.int r3], 0, 0) (I, J, sm_rf t d)
          refine sm_W.run (sm_C_mono D) 1 (G := True) (fr' := (if decide (¬ r3 = 0) = true then 73 else 69, [some (.ref 61), none, none, some (.int x3), some (.int r2)], [], 0, 0)) (M' := (I, J, sm_rf t d)) rfl trivial (sm_W.iteD h (fun hc h => ?_) (fun hc h => ?_))
          · exact sm_W.forget (L' := [some (.ref 61), none, none, some (.int x3), none]) ⟨rfl, ⟨rfl, trivial⟩⟩ (G_Mo_expression_73 hD h hQ hk23)
          · refine sm_W.run (sm_C_mono D) 2 (G := True) (fr' := (71, [some (.ref 61), none, none, some (.int x3), some (.int r2)], [.int (61 : Int32), .ref 61], 0, 0)) (M' := (I, J, sm_rf t d)) rfl trivial ?_
            obtain ⟨r4, hc, h⟩ := sd_q1_go h
            refine sm_W.cal (sm_C_mono D) (y := 173) (as := [.ref 61, .int (61 : Int32)]) (fr' := (72, [some (.ref 61), none, none, some (.int x3), some (.int r2)], [], 0, 0)) rfl (T_Mo_isSign (by omega) hc ?_)
            show sm_W sm_sh X (sm_C sm_sh X sm_P D) me_186 Q (72, [some (.ref 61), none, none, some (.int x3), some (.int r2)], [.int r4], 0, 0) (I, J, sm_rf t d)
            refine sm_W.run (sm_C_mono D) 1 (G := True) (fr' := (if decide (r4 = 0) = true then 103 else 73, [some (.ref 61), none, none, some (.int x3), some (.int r2)], [], 0, 0)) (M' := (I, J, sm_rf t d)) rfl trivial (sm_W.iteD h (fun hc h => ?_) (fun hc h => ?_))
            · exact sm_W.forget (L' := [some (.ref 61), none, none, some (.int x3), none]) ⟨rfl, ⟨rfl, trivial⟩⟩ (G_Mo_expression_103 hD h hQ hk23)
            · exact sm_W.forget (L' := [some (.ref 61), none, none, some (.int x3), none]) ⟨rfl, ⟨rfl, trivial⟩⟩ (G_Mo_expression_73 hD h hQ hk23)
        · exact (G_Mo_expression_37 hD h hQ hk23)
theorem G_Mo_expression_23 {X : Nat × (Nat → Int32)} {t d D : Nat} {Q : sm_Q} {Iz : sm_MI} {Jz : sm_MJ}
    (hD : 5 ≤ D) (hQ : Q (.inl none) (Iz, Jz, sm_rf t d))  : ∀ (n : Nat) (x3 : Int32) (I : sm_MI) (J : sm_MJ), F_Mo_expression_23 n x3 I J = some (Iz, Jz) → sm_W sm_sh X (sm_C sm_sh X sm_P D) me_186 Q (23, [some (.ref 61), none, none, some (.int x3), none], [], 0, 0) (I, J, sm_rf t d) := by
  intro n
  induction n with
  | zero => intro x3 I J h; cases (show (none : Option (sm_MI × sm_MJ)) = some (Iz, Jz) from h)
  | succ n ih => intro x3 I J h; exact G_Mo_expression_23B hD (show F_Mo_expression_23B (F_Mo_expression_23 n) x3 I J = some (Iz, Jz) from h) hQ  ih
theorem G_Mo_expression {X : Nat × (Nat → Int32)} {t d D : Nat} {Q : sm_Q} {I : sm_MI} {J : sm_MJ} {x1 : Int32} {x2 : Int32} {Iz : sm_MI} {Jz : sm_MJ}
    (hD : 5 ≤ D) (h : F_Mo_expression x1 x2 I J = some (Iz, Jz)) (hQ : Q (.inl none) (Iz, Jz, sm_rf t d))  : sm_W sm_sh X (sm_C sm_sh X sm_P D) me_186 Q (0, [some (.ref 61), some (.int x1), some (.int x2), none, none], [], 0, 0) (I, J, sm_rf t d) := by
  unfold F_Mo_expression at h
  refine sm_W.run (sm_C_mono D) 1 (G := True) (fr' := (1, [some (.ref 61), some (.int x1), some (.int x2), none, none], [.ref 61], 0, 0)) (M' := (I, J, sm_rf t d)) rfl trivial ?_
  obtain ⟨r1, hc, h⟩ := sd_q1_go h
  refine sm_W.cal (sm_C_mono D) (y := 172) (as := [.ref 61]) (fr' := (2, [some (.ref 61), some (.int x1), some (.int x2), none, none], [], 0, 0)) rfl (T_Mo_isGood (by omega) hc ?_)
  show sm_W sm_sh X (sm_C sm_sh X sm_P D) me_186 Q (2, [some (.ref 61), some (.int x1), some (.int x2), none, none], [.int r1], 0, 0) (I, J, sm_rf t d)
  refine sm_W.run (sm_C_mono D) 1 (G := True) (fr' := (if decide (¬ r1 = 0) = true then 4 else 3, [some (.ref 61), some (.int x1), some (.int x2), none, none], [], 0, 0)) (M' := (I, J, sm_rf t d)) rfl trivial (sm_W.iteD h (fun hc h => ?_) (fun hc h => ?_))
  · refine sm_W.runL (sm_C_mono D) 3 (G := True) (e := (sd_up I 61 31 x1)) (fr' := fun _ => (7, [some (.ref 61), some (.int x1), some (.int x2), none, none], [], 0, 0)) (M' := fun I2 => (I2, J, sm_rf t d)) rfl h trivial (fun I2 h => ?_)
    refine sm_W.runL (sm_C_mono D) 3 (G := True) (e := (sd_up I2 61 32 x2)) (fr' := fun _ => (10, [some (.ref 61), some (.int x1), some (.int x2), none, none], [], 0, 0)) (M' := fun I3 => (I3, J, sm_rf t d)) rfl h trivial (fun I3 h => ?_)
    refine sm_W.runL (sm_C_mono D) 3 (G := True) (e := (sd_up I3 61 33 (0 : Int32))) (fr' := fun _ => (13, [some (.ref 61), some (.int x1), some (.int x2), none, none], [], 0, 0)) (M' := fun I4 => (I4, J, sm_rf t d)) rfl h trivial (fun I4 h => ?_)
    refine sm_W.runL (sm_C_mono D) 3 (G := True) (e := (sd_up I4 61 34 (0 : Int32))) (fr' := fun _ => (16, [some (.ref 61), some (.int x1), some (.int x2), none, none], [], 0, 0)) (M' := fun I5 => (I5, J, sm_rf t d)) rfl h trivial (fun I5 h => ?_)
    refine sm_W.run (sm_C_mono D) 1 (G := True) (fr' := (17, [some (.ref 61), some (.int x1), some (.int x2), none, none], [.ref 61], 0, 0)) (M' := (I5, J, sm_rf t d)) rfl trivial ?_
    obtain ⟨I6, hc, h⟩ := sd_q1_go h
    refine sm_W.cal (sm_C_mono D) (y := 182) (as := [.ref 61]) (fr' := (18, [some (.ref 61), some (.int x1), some (.int x2), none, none], [], 0, 0)) rfl (T_Mo_deeper (by omega) hc ?_)
    show sm_W sm_sh X (sm_C sm_sh X sm_P D) me_186 Q (18, [some (.ref 61), some (.int x1), some (.int x2), none, none], [], 0, 0) (I6, J, sm_rf t d)
    refine sm_W.run (sm_C_mono D) 2 (G := True) (fr' := (20, [some (.ref 61), some (.int x1), some (.int x2), none, none], [.int (1 : Int32), .ref 61], 0, 0)) (M' := (I6, J, sm_rf t d)) rfl trivial ?_
    obtain ⟨I7, J8, hc, h⟩ := sd_q2_go h
    refine sm_W.cal (sm_C_mono D) (y := 183) (as := [.ref 61, .int (1 : Int32)]) (fr' := (21, [some (.ref 61), some (.int x1), some (.int x2), none, none], [], 0, 0)) rfl (T_Mo_operand (by omega) hc ?_)
    show sm_W sm_sh X (sm_C sm_sh X sm_P D) me_186 Q (21, [some (.ref 61), some (.int x1), some (.int x2), none, none], [], 0, 0) (I7, J8, sm_rf t d)
    refine sm_W.run (sm_C_mono D) 2 (G := True) (fr' := (23, [some (.ref 61), some (.int x1), some (.int x2), some (.int (1 : Int32)), none], [], 0, 0)) (M' := (I7, J8, sm_rf t d)) rfl trivial ?_
    exact sm_W.forget (L' := [some (.ref 61), none, none, some (.int (1 : Int32)), none]) ⟨rfl, ⟨rfl, trivial⟩⟩ (G_Mo_expression_23 hD hQ sd_fu _ _ _ h)
  · cases h
    exact sm_W.ret (sm_C_mono D) rfl hQ
theorem T_Mo_expression {X : Nat × (Nat → Int32)} {t d D : Nat} {Q : sm_Q} {I : sm_MI} {J : sm_MJ} {x1 : Int32} {x2 : Int32} {Iz : sm_MI} {Jz : sm_MJ}
    (hD : 6 ≤ D) (h : F_Mo_expression x1 x2 I J = some (Iz, Jz)) (hQ : Q (.inl none) (Iz, Jz, sm_rf t d)) : sm_C sm_sh X sm_P D 186 [.ref 61, .int x1, .int x2] (I, J, sm_rf t d) Q := by
  cases D with
  | zero => omega
  | succ D => exact sm_C.of (me := me_186) (L := [some (.ref 61), some (.int x1), some (.int x2), none, none]) rfl rfl rfl (sm_W.forget (L' := [some (.ref 61), some (.int x1), some (.int x2), none, none]) ⟨rfl, ⟨rfl, ⟨rfl, trivial⟩⟩⟩ (G_Mo_expression (by omega) h hQ))
-- 187 Mo_readsSinger
noncomputable def F_Mo_readsSinger_35 (x2 : Int32) (x3 : Int32) (I : sm_MI) (J : sm_MJ) : Option (sm_MI × sm_MJ) :=
  sd_q1 (F_Mo_isGood I) fun r1 =>
  if ¬ r1 = 0 then
    sd_gu (sm_in x2 14 = true) <|
    sd_lt (sd_up I 75 (Int32.toNatClampNeg x2) (x3 - (13 : Int32))) fun I3 =>
    sd_q2 (F_Mo_goes I3 J) fun I4 J5 =>
    sd_q3 (F_Mo_number (0 : Int32) (48 : Int32) I4 J5) fun r6 I7 J8 =>
    sd_gu (sm_in x2 14 = true) <|
    sd_lt (sd_up I7 76 (Int32.toNatClampNeg x2) r6) fun I10 =>
    sd_gu (sm_in x2 14 = true) <|
    sd_q3 (F_Mo_number (I10 76 (Int32.toNatClampNeg x2)) (48 : Int32) I10 J8) fun r12 I13 J14 =>
    sd_gu (sm_in x2 14 = true) <|
    sd_lt (sd_up I13 77 (Int32.toNatClampNeg x2) r12) fun I16 =>
    sd_q3 (F_Mo_number (0 : Int32) (9 : Int32) I16 J14) fun r17 I18 J19 =>
    sd_gu (sm_in x2 14 = true) <|
    sd_lt (sd_up I18 78 (Int32.toNatClampNeg x2) r17) fun I21 =>
    sd_q1 (F_Mo_isGood I21) fun r22 =>
    if r22 = 0 then
      some (I21, J19)
    else
      sd_lt (sd_up I21 61 27 ((I21 61 27) + (1 : Int32))) fun I23 =>
      some (I23, J19)
  else
    some (I, J)
noncomputable def F_Mo_readsSinger_32 (x2 : Int32) (x3 : Int32) (I : sm_MI) (J : sm_MJ) : Option (sm_MI × sm_MJ) :=
  sd_q1 (F_Mo_wrong (1 : Int32) I) fun I1 =>
  F_Mo_readsSinger_35 x2 x3 I1 J
noncomputable def F_Mo_readsSinger_7 (x1 : Int32) (I : sm_MI) (J : sm_MJ) : Option (sm_MI × sm_MJ) :=
  sd_q1 (F_Mo_isGood I) fun r1 =>
  if ¬ r1 = 0 then
    sd_q2 (F_Mo_goes I J) fun I2 J3 =>
    sd_lt (I2 61 27) fun a4 =>
    sd_gu (sm_in a4 14 = true) <|
    sd_lt (sd_up I2 74 (Int32.toNatClampNeg a4) (x1 - (10 : Int32))) fun I6 =>
    sd_q1 (F_Mo_knownWord I6 J3) fun r7 =>
    if r7 < (13 : Int32) then
      F_Mo_readsSinger_32 a4 r7 I6 J3
    else
      if r7 ≤ (16 : Int32) then
        F_Mo_readsSinger_35 a4 r7 I6 J3
      else
        F_Mo_readsSinger_32 a4 r7 I6 J3
  else
    some (I, J)
noncomputable def F_Mo_readsSinger (x1 : Int32) (I : sm_MI) (J : sm_MJ) : Option (sm_MI × sm_MJ) :=
  if ¬ (I 61 27) = (14 : Int32) then
    F_Mo_readsSinger_7 x1 I J
  else
    sd_q1 (F_Mo_wrong (2 : Int32) I) fun I1 =>
    F_Mo_readsSinger_7 x1 I1 J
theorem G_Mo_readsSinger_35 {X : Nat × (Nat → Int32)} {t d D : Nat} {Q : sm_Q} {I : sm_MI} {J : sm_MJ} {x2 : Int32} {x3 : Int32} {Iz : sm_MI} {Jz : sm_MJ}
    (hD : 3 ≤ D) (h : F_Mo_readsSinger_35 x2 x3 I J = some (Iz, Jz)) (hQ : Q (.inl none) (Iz, Jz, sm_rf t d))  : sm_W sm_sh X (sm_C sm_sh X sm_P D) me_187 Q (35, [some (.ref 61), none, some (.int x2), some (.int x3)], [], 0, 0) (I, J, sm_rf t d) := by
  unfold F_Mo_readsSinger_35 at h
  refine sm_W.run (sm_C_mono D) 1 (G := True) (fr' := (36, [some (.ref 61), none, some (.int x2), some (.int x3)], [.ref 61], 0, 0)) (M' := (I, J, sm_rf t d)) rfl trivial ?_
  obtain ⟨r1, hc, h⟩ := sd_q1_go h
  refine sm_W.cal (sm_C_mono D) (y := 172) (as := [.ref 61]) (fr' := (37, [some (.ref 61), none, some (.int x2), some (.int x3)], [], 0, 0)) rfl (T_Mo_isGood (by omega) hc ?_)
  show sm_W sm_sh X (sm_C sm_sh X sm_P D) me_187 Q (37, [some (.ref 61), none, some (.int x2), some (.int x3)], [.int r1], 0, 0) (I, J, sm_rf t d)
  refine sm_W.run (sm_C_mono D) 1 (G := True) (fr' := (if decide (¬ r1 = 0) = true then 39 else 38, [some (.ref 61), none, some (.int x2), some (.int x3)], [], 0, 0)) (M' := (I, J, sm_rf t d)) rfl trivial (sm_W.iteD h (fun hc h => ?_) (fun hc h => ?_))
  · obtain ⟨g2, h⟩ := sd_gu_go h
    refine sm_W.runL (sm_C_mono D) 7 (G := sm_in x2 14 = true ∧ True) (e := (sd_up I 75 (Int32.toNatClampNeg x2) (x3 - (13 : Int32)))) (fr' := fun _ => (46, [some (.ref 61), none, some (.int x2), some (.int x3)], [], 0, 0)) (M' := fun I3 => (I3, J, sm_rf t d)) rfl h ⟨g2, trivial⟩ (fun I3 h => ?_)
    refine sm_W.run (sm_C_mono D) 1 (G := True) (fr' := (47, [some (.ref 61), none, some (.int x2), some (.int x3)], [.ref 61], 0, 0)) (M' := (I3, J, sm_rf t d)) rfl trivial ?_
    obtain ⟨I4, J5, hc, h⟩ := sd_q2_go h
    refine sm_W.cal (sm_C_mono D) (y := 167) (as := [.ref 61]) (fr' := (48, [some (.ref 61), none, some (.int x2), some (.int x3)], [], 0, 0)) rfl (T_Mo_goes (by omega) hc ?_)
    show sm_W sm_sh X (sm_C sm_sh X sm_P D) me_187 Q (48, [some (.ref 61), none, some (.int x2), some (.int x3)], [], 0, 0) (I4, J5, sm_rf t d)
    refine sm_W.run (sm_C_mono D) 6 (G := True) (fr' := (54, [some (.ref 61), none, some (.int x2), some (.int x3)], [.int (48 : Int32), .int (0 : Int32), .ref 61, .int x2, .ref 76], 0, 0)) (M' := (I4, J5, sm_rf t d)) rfl trivial ?_
    obtain ⟨r6, I7, J8, hc, h⟩ := sd_q3_go h
    refine sm_W.cal (sm_C_mono D) (y := 175) (as := [.ref 61, .int (0 : Int32), .int (48 : Int32)]) (fr' := (55, [some (.ref 61), none, some (.int x2), some (.int x3)], [.int x2, .ref 76], 0, 0)) rfl (T_Mo_number (by omega) hc ?_)
    show sm_W sm_sh X (sm_C sm_sh X sm_P D) me_187 Q (55, [some (.ref 61), none, some (.int x2), some (.int x3)], [.int r6, .int x2, .ref 76], 0, 0) (I7, J8, sm_rf t d)
    obtain ⟨g9, h⟩ := sd_gu_go h
    refine sm_W.runL (sm_C_mono D) 1 (G := sm_in x2 14 = true ∧ True) (e := (sd_up I7 76 (Int32.toNatClampNeg x2) r6)) (fr' := fun _ => (56, [some (.ref 61), none, some (.int x2), some (.int x3)], [], 0, 0)) (M' := fun I10 => (I10, J8, sm_rf t d)) rfl h ⟨g9, trivial⟩ (fun I10 h => ?_)
    obtain ⟨g11, h⟩ := sd_gu_go h
    refine sm_W.run (sm_C_mono D) 9 (G := sm_in x2 14 = true ∧ True) (fr' := (65, [some (.ref 61), none, some (.int x2), some (.int x3)], [.int (48 : Int32), .int (I10 76 (Int32.toNatClampNeg x2)), .ref 61, .int x2, .ref 77], 0, 0)) (M' := (I10, J8, sm_rf t d)) rfl ⟨g11, trivial⟩ ?_
    obtain ⟨r12, I13, J14, hc, h⟩ := sd_q3_go h
    refine sm_W.cal (sm_C_mono D) (y := 175) (as := [.ref 61, .int (I10 76 (Int32.toNatClampNeg x2)), .int (48 : Int32)]) (fr' := (66, [some (.ref 61), none, some (.int x2), some (.int x3)], [.int x2, .ref 77], 0, 0)) rfl (T_Mo_number (by omega) hc ?_)
    show sm_W sm_sh X (sm_C sm_sh X sm_P D) me_187 Q (66, [some (.ref 61), none, some (.int x2), some (.int x3)], [.int r12, .int x2, .ref 77], 0, 0) (I13, J14, sm_rf t d)
    obtain ⟨g15, h⟩ := sd_gu_go h
    refine sm_W.runL (sm_C_mono D) 1 (G := sm_in x2 14 = true ∧ True) (e := (sd_up I13 77 (Int32.toNatClampNeg x2) r12)) (fr' := fun _ => (67, [some (.ref 61), none, some (.int x2), some (.int x3)], [], 0, 0)) (M' := fun I16 => (I16, J14, sm_rf t d)) rfl h ⟨g15, trivial⟩ (fun I16 h => ?_)
    refine sm_W.run (sm_C_mono D) 6 (G := True) (fr' := (73, [some (.ref 61), none, some (.int x2), some (.int x3)], [.int (9 : Int32), .int (0 : Int32), .ref 61, .int x2, .ref 78], 0, 0)) (M' := (I16, J14, sm_rf t d)) rfl trivial ?_
    obtain ⟨r17, I18, J19, hc, h⟩ := sd_q3_go h
    refine sm_W.cal (sm_C_mono D) (y := 175) (as := [.ref 61, .int (0 : Int32), .int (9 : Int32)]) (fr' := (74, [some (.ref 61), none, some (.int x2), some (.int x3)], [.int x2, .ref 78], 0, 0)) rfl (T_Mo_number (by omega) hc ?_)
    show sm_W sm_sh X (sm_C sm_sh X sm_P D) me_187 Q (74, [some (.ref 61), none, some (.int x2), some (.int x3)], [.int r17, .int x2, .ref 78], 0, 0) (I18, J19, sm_rf t d)
    obtain ⟨g20, h⟩ := sd_gu_go h
    refine sm_W.runL (sm_C_mono D) 1 (G := sm_in x2 14 = true ∧ True) (e := (sd_up I18 78 (Int32.toNatClampNeg x2) r17)) (fr' := fun _ => (75, [some (.ref 61), none, some (.int x2), some (.int x3)], [], 0, 0)) (M' := fun I21 => (I21, J19, sm_rf t d)) rfl h ⟨g20, trivial⟩ (fun I21 h => ?_)
    refine sm_W.run (sm_C_mono D) 1 (G := True) (fr' := (76, [some (.ref 61), none, some (.int x2), some (.int x3)], [.ref 61], 0, 0)) (M' := (I21, J19, sm_rf t d)) rfl trivial ?_
    obtain ⟨r22, hc, h⟩ := sd_q1_go h
    refine sm_W.cal (sm_C_mono D) (y := 172) (as := [.ref 61]) (fr' := (77, [some (.ref 61), none, some (.int x2), some (.int x3)], [], 0, 0)) rfl (T_Mo_isGood (by omega) hc ?_)
    show sm_W sm_sh X (sm_C sm_sh X sm_P D) me_187 Q (77, [some (.ref 61), none, some (.int x2), some (.int x3)], [.int r22], 0, 0) (I21, J19, sm_rf t d)
    refine sm_W.run (sm_C_mono D) 1 (G := True) (fr' := (if decide (r22 = 0) = true then 84 else 78, [some (.ref 61), none, some (.int x2), some (.int x3)], [], 0, 0)) (M' := (I21, J19, sm_rf t d)) rfl trivial (sm_W.iteD h (fun hc h => ?_) (fun hc h => ?_))
    · cases h
      exact sm_W.ret (sm_C_mono D) rfl hQ
    · refine sm_W.runL (sm_C_mono D) 6 (G := True) (e := (sd_up I21 61 27 ((I21 61 27) + (1 : Int32)))) (fr' := fun _ => (84, [some (.ref 61), none, some (.int x2), some (.int x3)], [], 0, 0)) (M' := fun I23 => (I23, J19, sm_rf t d)) rfl h trivial (fun I23 h => ?_)
      cases h
      exact sm_W.ret (sm_C_mono D) rfl hQ
  · cases h
    exact sm_W.ret (sm_C_mono D) rfl hQ
theorem G_Mo_readsSinger_32 {X : Nat × (Nat → Int32)} {t d D : Nat} {Q : sm_Q} {I : sm_MI} {J : sm_MJ} {x2 : Int32} {x3 : Int32} {Iz : sm_MI} {Jz : sm_MJ}
    (hD : 3 ≤ D) (h : F_Mo_readsSinger_32 x2 x3 I J = some (Iz, Jz)) (hQ : Q (.inl none) (Iz, Jz, sm_rf t d))  : sm_W sm_sh X (sm_C sm_sh X sm_P D) me_187 Q (32, [some (.ref 61), none, some (.int x2), some (.int x3)], [], 0, 0) (I, J, sm_rf t d) := by
  unfold F_Mo_readsSinger_32 at h
  refine sm_W.run (sm_C_mono D) 2 (G := True) (fr' := (34, [some (.ref 61), none, some (.int x2), some (.int x3)], [.int (1 : Int32), .ref 61], 0, 0)) (M' := (I, J, sm_rf t d)) rfl trivial ?_
  obtain ⟨I1, hc, h⟩ := sd_q1_go h
  refine sm_W.cal (sm_C_mono D) (y := 171) (as := [.ref 61, .int (1 : Int32)]) (fr' := (35, [some (.ref 61), none, some (.int x2), some (.int x3)], [], 0, 0)) rfl (T_Mo_wrong (by omega) hc ?_)
  show sm_W sm_sh X (sm_C sm_sh X sm_P D) me_187 Q (35, [some (.ref 61), none, some (.int x2), some (.int x3)], [], 0, 0) (I1, J, sm_rf t d)
  exact (G_Mo_readsSinger_35 hD h hQ)
theorem G_Mo_readsSinger_7 {X : Nat × (Nat → Int32)} {t d D : Nat} {Q : sm_Q} {I : sm_MI} {J : sm_MJ} {x1 : Int32} {Iz : sm_MI} {Jz : sm_MJ}
    (hD : 3 ≤ D) (h : F_Mo_readsSinger_7 x1 I J = some (Iz, Jz)) (hQ : Q (.inl none) (Iz, Jz, sm_rf t d))  : sm_W sm_sh X (sm_C sm_sh X sm_P D) me_187 Q (7, [some (.ref 61), some (.int x1), none, none], [], 0, 0) (I, J, sm_rf t d) := by
  unfold F_Mo_readsSinger_7 at h
  refine sm_W.run (sm_C_mono D) 1 (G := True) (fr' := (8, [some (.ref 61), some (.int x1), none, none], [.ref 61], 0, 0)) (M' := (I, J, sm_rf t d)) rfl trivial ?_
  obtain ⟨r1, hc, h⟩ := sd_q1_go h
  refine sm_W.cal (sm_C_mono D) (y := 172) (as := [.ref 61]) (fr' := (9, [some (.ref 61), some (.int x1), none, none], [], 0, 0)) rfl (T_Mo_isGood (by omega) hc ?_)
  show sm_W sm_sh X (sm_C sm_sh X sm_P D) me_187 Q (9, [some (.ref 61), some (.int x1), none, none], [.int r1], 0, 0) (I, J, sm_rf t d)
  refine sm_W.run (sm_C_mono D) 1 (G := True) (fr' := (if decide (¬ r1 = 0) = true then 11 else 10, [some (.ref 61), some (.int x1), none, none], [], 0, 0)) (M' := (I, J, sm_rf t d)) rfl trivial (sm_W.iteD h (fun hc h => ?_) (fun hc h => ?_))
  · refine sm_W.run (sm_C_mono D) 1 (G := True) (fr' := (12, [some (.ref 61), some (.int x1), none, none], [.ref 61], 0, 0)) (M' := (I, J, sm_rf t d)) rfl trivial ?_
    obtain ⟨I2, J3, hc, h⟩ := sd_q2_go h
    refine sm_W.cal (sm_C_mono D) (y := 167) (as := [.ref 61]) (fr' := (13, [some (.ref 61), some (.int x1), none, none], [], 0, 0)) rfl (T_Mo_goes (by omega) hc ?_)
    show sm_W sm_sh X (sm_C sm_sh X sm_P D) me_187 Q (13, [some (.ref 61), some (.int x1), none, none], [], 0, 0) (I2, J3, sm_rf t d)
    refine sm_W.runL (sm_C_mono D) 3 (G := True) (e := (I2 61 27)) (fr' := fun a4 => (16, [some (.ref 61), some (.int x1), some (.int a4), none], [], 0, 0)) (M' := fun _ => (I2, J3, sm_rf t d)) rfl h trivial (fun a4 h => ?_)
    obtain ⟨g5, h⟩ := sd_gu_go h
    refine sm_W.runL (sm_C_mono D) 7 (G := sm_in a4 14 = true ∧ True) (e := (sd_up I2 74 (Int32.toNatClampNeg a4) (x1 - (10 : Int32)))) (fr' := fun _ => (23, [some (.ref 61), some (.int x1), some (.int a4), none], [], 0, 0)) (M' := fun I6 => (I6, J3, sm_rf t d)) rfl h ⟨g5, trivial⟩ (fun I6 h => ?_)
    refine sm_W.run (sm_C_mono D) 1 (G := True) (fr' := (24, [some (.ref 61), some (.int x1), some (.int a4), none], [.ref 61], 0, 0)) (M' := (I6, J3, sm_rf t d)) rfl trivial ?_
    obtain ⟨r7, hc, h⟩ := sd_q1_go h
    refine sm_W.cal (sm_C_mono D) (y := 170) (as := [.ref 61]) (fr' := (25, [some (.ref 61), some (.int x1), some (.int a4), none], [], 0, 0)) rfl (T_Mo_knownWord (by omega) hc ?_)
    show sm_W sm_sh X (sm_C sm_sh X sm_P D) me_187 Q (25, [some (.ref 61), some (.int x1), some (.int a4), none], [.int r7], 0, 0) (I6, J3, sm_rf t d)
    refine sm_W.run (sm_C_mono D) 4 (G := True) (fr' := (if decide (r7 < (13 : Int32)) = true then 32 else 29, [some (.ref 61), some (.int x1), some (.int a4), some (.int r7)], [], 0, 0)) (M' := (I6, J3, sm_rf t d)) rfl trivial (sm_W.iteD h (fun hc h => ?_) (fun hc h => ?_))
    · exact sm_W.forget (L' := [some (.ref 61), none, some (.int a4), some (.int r7)]) ⟨rfl, ⟨rfl, ⟨rfl, trivial⟩⟩⟩ (G_Mo_readsSinger_32 hD h hQ)
    · refine sm_W.run (sm_C_mono D) 3 (G := True) (fr' := (if decide (r7 ≤ (16 : Int32)) = true then 35 else 32, [some (.ref 61), some (.int x1), some (.int a4), some (.int r7)], [], 0, 0)) (M' := (I6, J3, sm_rf t d)) rfl trivial (sm_W.iteD h (fun hc h => ?_) (fun hc h => ?_))
      · exact sm_W.forget (L' := [some (.ref 61), none, some (.int a4), some (.int r7)]) ⟨rfl, ⟨rfl, ⟨rfl, trivial⟩⟩⟩ (G_Mo_readsSinger_35 hD h hQ)
      · exact sm_W.forget (L' := [some (.ref 61), none, some (.int a4), some (.int r7)]) ⟨rfl, ⟨rfl, ⟨rfl, trivial⟩⟩⟩ (G_Mo_readsSinger_32 hD h hQ)
  · cases h
    exact sm_W.ret (sm_C_mono D) rfl hQ
theorem G_Mo_readsSinger {X : Nat × (Nat → Int32)} {t d D : Nat} {Q : sm_Q} {I : sm_MI} {J : sm_MJ} {x1 : Int32} {Iz : sm_MI} {Jz : sm_MJ}
    (hD : 3 ≤ D) (h : F_Mo_readsSinger x1 I J = some (Iz, Jz)) (hQ : Q (.inl none) (Iz, Jz, sm_rf t d))  : sm_W sm_sh X (sm_C sm_sh X sm_P D) me_187 Q (0, [some (.ref 61), some (.int x1), none, none], [], 0, 0) (I, J, sm_rf t d) := by
  unfold F_Mo_readsSinger at h
  refine sm_W.run (sm_C_mono D) 4 (G := True) (fr' := (if decide (¬ (I 61 27) = (14 : Int32)) = true then 7 else 4, [some (.ref 61), some (.int x1), none, none], [], 0, 0)) (M' := (I, J, sm_rf t d)) rfl trivial (sm_W.iteD h (fun hc h => ?_) (fun hc h => ?_))
  · exact (G_Mo_readsSinger_7 hD h hQ)
  · refine sm_W.run (sm_C_mono D) 2 (G := True) (fr' := (6, [some (.ref 61), some (.int x1), none, none], [.int (2 : Int32), .ref 61], 0, 0)) (M' := (I, J, sm_rf t d)) rfl trivial ?_
    obtain ⟨I1, hc, h⟩ := sd_q1_go h
    refine sm_W.cal (sm_C_mono D) (y := 171) (as := [.ref 61, .int (2 : Int32)]) (fr' := (7, [some (.ref 61), some (.int x1), none, none], [], 0, 0)) rfl (T_Mo_wrong (by omega) hc ?_)
    show sm_W sm_sh X (sm_C sm_sh X sm_P D) me_187 Q (7, [some (.ref 61), some (.int x1), none, none], [], 0, 0) (I1, J, sm_rf t d)
    exact (G_Mo_readsSinger_7 hD h hQ)
theorem T_Mo_readsSinger {X : Nat × (Nat → Int32)} {t d D : Nat} {Q : sm_Q} {I : sm_MI} {J : sm_MJ} {x1 : Int32} {Iz : sm_MI} {Jz : sm_MJ}
    (hD : 4 ≤ D) (h : F_Mo_readsSinger x1 I J = some (Iz, Jz)) (hQ : Q (.inl none) (Iz, Jz, sm_rf t d)) : sm_C sm_sh X sm_P D 187 [.ref 61, .int x1] (I, J, sm_rf t d) Q := by
  cases D with
  | zero => omega
  | succ D => exact sm_C.of (me := me_187) (L := [some (.ref 61), some (.int x1), none, none]) rfl rfl rfl (sm_W.forget (L' := [some (.ref 61), some (.int x1), none, none]) ⟨rfl, ⟨rfl, trivial⟩⟩ (G_Mo_readsSinger (by omega) h hQ))
-- 188 Mo_readsRow
noncomputable def F_Mo_readsRow_100 (x2 : Int32) (x3 : Int32) (I : sm_MI) (J : sm_MJ) : Option (sm_MI × sm_MJ) :=
  sd_gu (sm_in x2 20 = true) <|
  sd_lt (sd_up I 79 (Int32.toNatClampNeg x2) x3) fun I2 =>
  some (I2, J)
noncomputable def F_Mo_readsRow_62 (k44 : Int32 → Int32 → Int32 → sm_MI → sm_MJ → Option (sm_MI × sm_MJ)) (x2 : Int32) (x3 : Int32) (I : sm_MI) (J : sm_MJ) : Option (sm_MI × sm_MJ) :=
  sd_q3 (F_Mo_number (0 : Int32) (48 : Int32) I J) fun r1 I2 J3 =>
  sd_q1 (F_Mo_isGood I2) fun r4 =>
  if ¬ r4 = 0 then
    sd_gu (sm_in x2 20 = true) <|
    sd_gu (sm_in (((12 : Int32) * x2) + (I2 80 (Int32.toNatClampNeg x2))) 240 = true) <|
    sd_lt (sd_up I2 81 (Int32.toNatClampNeg (((12 : Int32) * x2) + (I2 80 (Int32.toNatClampNeg x2)))) r1) fun I7 =>
    sd_gu (sm_in x2 20 = true) <|
    sd_gu (sm_in x2 20 = true) <|
    sd_lt (sd_up I7 80 (Int32.toNatClampNeg x2) ((I7 80 (Int32.toNatClampNeg x2)) + (1 : Int32))) fun I10 =>
    if ¬ (I10 61 21) = (2 : Int32) then
      k44 x2 x3 (0 : Int32) I10 J3
    else
      k44 x2 x3 (1 : Int32) I10 J3
  else
    some (I2, J3)
noncomputable def F_Mo_readsRow_44B (k44 : Int32 → Int32 → Int32 → sm_MI → sm_MJ → Option (sm_MI × sm_MJ)) (x2 : Int32) (x3 : Int32) (x4 : Int32) (I : sm_MI) (J : sm_MJ) : Option (sm_MI × sm_MJ) :=
  if x4 = 0 then
    F_Mo_readsRow_100 x2 x3 I J
  else
    sd_q1 (F_Mo_isGood I) fun r1 =>
    if r1 = 0 then
      F_Mo_readsRow_100 x2 x3 I J
    else
      sd_gu (sm_in x2 20 = true) <|
      if ¬ (I 80 (Int32.toNatClampNeg x2)) = (12 : Int32) then
        F_Mo_readsRow_62 k44 x2 x3 I J
      else
        if ¬ (I 61 21) = (2 : Int32) then
          F_Mo_readsRow_62 k44 x2 x3 I J
        else
          sd_q1 (F_Mo_wrong (2 : Int32) I) fun I3 =>
          F_Mo_readsRow_62 k44 x2 x3 I3 J
noncomputable def F_Mo_readsRow_44  (n : Nat) : Int32 → Int32 → Int32 → sm_MI → sm_MJ → Option (sm_MI × sm_MJ) :=
  sd_fix (fun k x2 x3 x4 I J => F_Mo_readsRow_44B k x2 x3 x4 I J) (fun _ _ _ _ _ => none) n
noncomputable def F_Mo_readsRow_26 (x2 : Int32) (I : sm_MI) (J : sm_MJ) : Option (sm_MI × sm_MJ) :=
  sd_q1 (F_Mo_isGood I) fun r1 =>
  if ¬ r1 = 0 then
    sd_q2 (F_Mo_goes I J) fun I2 J3 =>
    sd_q3 (F_Mo_number (1 : Int32) (4 : Int32) I2 J3) fun r4 I5 J6 =>
    sd_gu (sm_in x2 20 = true) <|
    sd_lt (sd_up I5 80 (Int32.toNatClampNeg x2) (0 : Int32)) fun I8 =>
    F_Mo_readsRow_44 sd_fu x2 r4 (1 : Int32) I8 J6
  else
    some (I, J)
noncomputable def F_Mo_readsRow_6 (x1 : Int32) (I : sm_MI) (J : sm_MJ) : Option (sm_MI × sm_MJ) :=
  sd_lt ((((4 : Int32) * (I 61 28)) - (4 : Int32)) + x1) fun a1 =>
  sd_q1 (F_Mo_isGood I) fun r2 =>
  if r2 = 0 then
    F_Mo_readsRow_26 a1 I J
  else
    sd_gu (sm_in a1 20 = true) <|
    if (I 79 (Int32.toNatClampNeg a1)) ≤ 0 then
      F_Mo_readsRow_26 a1 I J
    else
      sd_q1 (F_Mo_wrong (4 : Int32) I) fun I4 =>
      F_Mo_readsRow_26 a1 I4 J
noncomputable def F_Mo_readsRow (x1 : Int32) (I : sm_MI) (J : sm_MJ) : Option (sm_MI × sm_MJ) :=
  if ¬ (I 61 28) = 0 then
    F_Mo_readsRow_6 x1 I J
  else
    sd_q1 (F_Mo_wrong (1 : Int32) I) fun I1 =>
    F_Mo_readsRow_6 x1 I1 J
theorem G_Mo_readsRow_100 {X : Nat × (Nat → Int32)} {t d D : Nat} {Q : sm_Q} {I : sm_MI} {J : sm_MJ} {x2 : Int32} {x3 : Int32} {Iz : sm_MI} {Jz : sm_MJ}
    (hD : 3 ≤ D) (h : F_Mo_readsRow_100 x2 x3 I J = some (Iz, Jz)) (hQ : Q (.inl none) (Iz, Jz, sm_rf t d))  : sm_W sm_sh X (sm_C sm_sh X sm_P D) me_188 Q (100, [some (.ref 61), none, some (.int x2), some (.int x3), none, none], [], 0, 0) (I, J, sm_rf t d) := by
  unfold F_Mo_readsRow_100 at h
  obtain ⟨g1, h⟩ := sd_gu_go h
  refine sm_W.runL (sm_C_mono D) 5 (G := sm_in x2 20 = true ∧ True) (e := (sd_up I 79 (Int32.toNatClampNeg x2) x3)) (fr' := fun _ => (105, [some (.ref 61), none, some (.int x2), some (.int x3), none, none], [], 0, 0)) (M' := fun I2 => (I2, J, sm_rf t d)) rfl h ⟨g1, trivial⟩ (fun I2 h => ?_)
  cases h
  exact sm_W.ret (sm_C_mono D) rfl hQ
theorem G_Mo_readsRow_62 {X : Nat × (Nat → Int32)} {t d D : Nat} {Q : sm_Q} {I : sm_MI} {J : sm_MJ} {k44 : Int32 → Int32 → Int32 → sm_MI → sm_MJ → Option (sm_MI × sm_MJ)} {x2 : Int32} {x3 : Int32} {Iz : sm_MI} {Jz : sm_MJ}
    (hD : 3 ≤ D) (h : F_Mo_readsRow_62 k44 x2 x3 I J = some (Iz, Jz)) (hQ : Q (.inl none) (Iz, Jz, sm_rf t d)) (hk44 : ∀ (x2 : Int32) (x3 : Int32) (x4 : Int32) (I : sm_MI) (J : sm_MJ), k44 x2 x3 x4 I J = some (Iz, Jz) → sm_W sm_sh X (sm_C sm_sh X sm_P D) me_188 Q (44, [some (.ref 61), none, some (.int x2), some (.int x3), some (.int x4), none], [], 0, 0) (I, J, sm_rf t d)) : sm_W sm_sh X (sm_C sm_sh X sm_P D) me_188 Q (62, [some (.ref 61), none, some (.int x2), some (.int x3), none, none], [], 0, 0) (I, J, sm_rf t d) := by
  unfold F_Mo_readsRow_62 at h
  refine sm_W.run (sm_C_mono D) 3 (G := True) (fr' := (65, [some (.ref 61), none, some (.int x2), some (.int x3), none, none], [.int (48 : Int32), .int (0 : Int32), .ref 61], 0, 0)) (M' := (I, J, sm_rf t d)) rfl trivial ?_
  obtain ⟨r1, I2, J3, hc, h⟩ := sd_q3_go h
  refine sm_W.cal (sm_C_mono D) (y := 175) (as := [.ref 61, .int (0 : Int32), .int (48 : Int32)]) (fr' := (66, [some (.ref 61), none, some (.int x2), some (.int x3), none, none], [], 0, 0)) rfl (T_Mo_number (by omega) hc ?_)
  show sm_W sm_sh X (sm_C sm_sh X sm_P D) me_188 Q (66, [some (.ref 61), none, some (.int x2), some (.int x3), none, none], [.int r1], 0, 0) (I2, J3, sm_rf t d)
  refine sm_W.run (sm_C_mono D) 2 (G := True) (fr' := (68, [some (.ref 61), none, some (.int x2), some (.int x3), none, some (.int r1)], [.ref 61], 0, 0)) (M' := (I2, J3, sm_rf t d)) rfl trivial ?_
  obtain ⟨r4, hc, h⟩ := sd_q1_go h
  refine sm_W.cal (sm_C_mono D) (y := 172) (as := [.ref 61]) (fr' := (69, [some (.ref 61), none, some (.int x2), some (.int x3), none, some (.int r1)], [], 0, 0)) rfl (T_Mo_isGood (by omega) hc ?_)
  show sm_W sm_sh X (sm_C sm_sh X sm_P D) me_188 Q (69, [some (.ref 61), none, some (.int x2), some (.int x3), none, some (.int r1)], [.int r4], 0, 0) (I2, J3, sm_rf t d)
  refine sm_W.run (sm_C_mono D) 1 (G := True) (fr' := (if decide (¬ r4 = 0) = true then 71 else 70, [some (.ref 61), none, some (.int x2), some (.int x3), none, some (.int r1)], [], 0, 0)) (M' := (I2, J3, sm_rf t d)) rfl trivial (sm_W.iteD h (fun hc h => ?_) (fun hc h => ?_))
  · obtain ⟨g5, h⟩ := sd_gu_go h
    obtain ⟨g6, h⟩ := sd_gu_go h
    refine sm_W.runL (sm_C_mono D) 12 (G := sm_in x2 20 = true ∧ sm_in (((12 : Int32) * x2) + (I2 80 (Int32.toNatClampNeg x2))) 240 = true ∧ True) (e := (sd_up I2 81 (Int32.toNatClampNeg (((12 : Int32) * x2) + (I2 80 (Int32.toNatClampNeg x2)))) r1)) (fr' := fun _ => (83, [some (.ref 61), none, some (.int x2), some (.int x3), none, some (.int r1)], [], 0, 0)) (M' := fun I7 => (I7, J3, sm_rf t d)) rfl h ⟨g5, g6, trivial⟩ (fun I7 h => ?_)
    obtain ⟨g8, h⟩ := sd_gu_go h
    obtain ⟨g9, h⟩ := sd_gu_go h
    refine sm_W.runL (sm_C_mono D) 8 (G := sm_in x2 20 = true ∧ sm_in x2 20 = true ∧ True) (e := (sd_up I7 80 (Int32.toNatClampNeg x2) ((I7 80 (Int32.toNatClampNeg x2)) + (1 : Int32)))) (fr' := fun _ => (91, [some (.ref 61), none, some (.int x2), some (.int x3), none, some (.int r1)], [], 0, 0)) (M' := fun I10 => (I10, J3, sm_rf t d)) rfl h ⟨g8, g9, trivial⟩ (fun I10 h => ?_)
    refine sm_W.run (sm_C_mono D) 4 (G := True) (fr' := (if decide (¬ (I10 61 21) = (2 : Int32)) = true then 97 else 95, [some (.ref 61), none, some (.int x2), some (.int x3), none, some (.int r1)], [], 0, 0)) (M' := (I10, J3, sm_rf t d)) rfl trivial (sm_W.iteD h (fun hc h => ?_) (fun hc h => ?_))
    · refine sm_W.run (sm_C_mono D) 3 (G := True) (fr' := (44, [some (.ref 61), none, some (.int x2), some (.int x3), some (.int (0 : Int32)), some (.int r1)], [], 0, 0)) (M' := (I10, J3, sm_rf t d)) rfl trivial ?_
      exact sm_W.forget (L' := [some (.ref 61), none, some (.int x2), some (.int x3), some (.int (0 : Int32)), none]) ⟨rfl, ⟨rfl, ⟨rfl, ⟨rfl, trivial⟩⟩⟩⟩ (hk44 _ _ _ _ _ h)
    · refine sm_W.run (sm_C_mono D) 4 (G := True) (fr' := (44, [some (.ref 61), none, some (.int x2), some (.int x3), some (.int (1 : Int32)), some (.int r1)], [], 0, 0)) (M' := (I10, J3, sm_rf t d)) rfl trivial ?_
      exact sm_W.forget (L' := [some (.ref 61), none, some (.int x2), some (.int x3), some (.int (1 : Int32)), none]) ⟨rfl, ⟨rfl, ⟨rfl, ⟨rfl, trivial⟩⟩⟩⟩ (hk44 _ _ _ _ _ h)
  · cases h
    exact sm_W.ret (sm_C_mono D) rfl hQ
theorem G_Mo_readsRow_44B {X : Nat × (Nat → Int32)} {t d D : Nat} {Q : sm_Q} {I : sm_MI} {J : sm_MJ} {k44 : Int32 → Int32 → Int32 → sm_MI → sm_MJ → Option (sm_MI × sm_MJ)} {x2 : Int32} {x3 : Int32} {x4 : Int32} {Iz : sm_MI} {Jz : sm_MJ}
    (hD : 3 ≤ D) (h : F_Mo_readsRow_44B k44 x2 x3 x4 I J = some (Iz, Jz)) (hQ : Q (.inl none) (Iz, Jz, sm_rf t d)) (hk44 : ∀ (x2 : Int32) (x3 : Int32) (x4 : Int32) (I : sm_MI) (J : sm_MJ), k44 x2 x3 x4 I J = some (Iz, Jz) → sm_W sm_sh X (sm_C sm_sh X sm_P D) me_188 Q (44, [some (.ref 61), none, some (.int x2), some (.int x3), some (.int x4), none], [], 0, 0) (I, J, sm_rf t d)) : sm_W sm_sh X (sm_C sm_sh X sm_P D) me_188 Q (44, [some (.ref 61), none, some (.int x2), some (.int x3), some (.int x4), none], [], 0, 0) (I, J, sm_rf t d) := by
  unfold F_Mo_readsRow_44B at h
  refine sm_W.run (sm_C_mono D) 2 (G := True) (fr' := (if decide (x4 = 0) = true then 100 else 46, [some (.ref 61), none, some (.int x2), some (.int x3), some (.int x4), none], [], 0, 0)) (M' := (I, J, sm_rf t d)) rfl trivial (sm_W.iteD h (fun hc h => ?_) (fun hc h => ?_))
  · exact sm_W.forget (L' := [some (.ref 61), none, some (.int x2), some (.int x3), none, none]) ⟨rfl, ⟨rfl, ⟨rfl, trivial⟩⟩⟩ (G_Mo_readsRow_100 hD h hQ)
  · refine sm_W.run (sm_C_mono D) 1 (G := True) (fr' := (47, [some (.ref 61), none, some (.int x2), some (.int x3), some (.int x4), none], [.ref 61], 0, 0)) (M' := (I, J, sm_rf t d)) rfl trivial ?_
    obtain ⟨r1, hc, h⟩ := sd_q1_go h
    refine sm_W.cal (sm_C_mono D) (y := 172) (as := [.ref 61]) (fr' := (48, [some (.ref 61), none, some (.int x2), some (.int x3), some (.int x4), none], [], 0, 0)) rfl (T_Mo_isGood (by omega) hc ?_)
    show sm_W sm_sh X (sm_C sm_sh X sm_P D) me_188 Q (48, [some (.ref 61), none, some (.int x2), some (.int x3), some (.int x4), none], [.int r1], 0, 0) (I, J, sm_rf t d)
    refine sm_W.run (sm_C_mono D) 1 (G := True) (fr' := (if decide (r1 = 0) = true then 100 else 49, [some (.ref 61), none, some (.int x2), some (.int x3), some (.int x4), none], [], 0, 0)) (M' := (I, J, sm_rf t d)) rfl trivial (sm_W.iteD h (fun hc h => ?_) (fun hc h => ?_))
    · exact sm_W.forget (L' := [some (.ref 61), none, some (.int x2), some (.int x3), none, none]) ⟨rfl, ⟨rfl, ⟨rfl, trivial⟩⟩⟩ (G_Mo_readsRow_100 hD h hQ)
    · obtain ⟨g2, h⟩ := sd_gu_go h
      refine sm_W.run (sm_C_mono D) 6 (G := sm_in x2 20 = true ∧ True) (fr' := (if decide (¬ (I 80 (Int32.toNatClampNeg x2)) = (12 : Int32)) = true then 62 else 55, [some (.ref 61), none, some (.int x2), some (.int x3), some (.int x4), none], [], 0, 0)) (M' := (I, J, sm_rf t d)) rfl ⟨g2, trivial⟩ (sm_W.iteD h (fun hc h => ?_) (fun hc h => ?_))
      · exact sm_W.forget (L' := [some (.ref 61), none, some (.int x2), some (.int x3), none, none]) ⟨rfl, ⟨rfl, ⟨rfl, trivial⟩⟩⟩ (G_Mo_readsRow_62 hD h hQ hk44)
      · refine sm_W.run (sm_C_mono D) 4 (G := True) (fr' := (if decide (¬ (I 61 21) = (2 : Int32)) = true then 62 else 59, [some (.ref 61), none, some (.int x2), some (.int x3), some (.int x4), none], [], 0, 0)) (M' := (I, J, sm_rf t d)) rfl trivial (sm_W.iteD h (fun hc h => ?_) (fun hc h => ?_))
        · exact sm_W.forget (L' := [some (.ref 61), none, some (.int x2), some (.int x3), none, none]) ⟨rfl, ⟨rfl, ⟨rfl, trivial⟩⟩⟩ (G_Mo_readsRow_62 hD h hQ hk44)
        · refine sm_W.run (sm_C_mono D) 2 (G := True) (fr' := (61, [some (.ref 61), none, some (.int x2), some (.int x3), some (.int x4), none], [.int (2 : Int32), .ref 61], 0, 0)) (M' := (I, J, sm_rf t d)) rfl trivial ?_
          obtain ⟨I3, hc, h⟩ := sd_q1_go h
          refine sm_W.cal (sm_C_mono D) (y := 171) (as := [.ref 61, .int (2 : Int32)]) (fr' := (62, [some (.ref 61), none, some (.int x2), some (.int x3), some (.int x4), none], [], 0, 0)) rfl (T_Mo_wrong (by omega) hc ?_)
          show sm_W sm_sh X (sm_C sm_sh X sm_P D) me_188 Q (62, [some (.ref 61), none, some (.int x2), some (.int x3), some (.int x4), none], [], 0, 0) (I3, J, sm_rf t d)
          exact sm_W.forget (L' := [some (.ref 61), none, some (.int x2), some (.int x3), none, none]) ⟨rfl, ⟨rfl, ⟨rfl, trivial⟩⟩⟩ (G_Mo_readsRow_62 hD h hQ hk44)
theorem G_Mo_readsRow_44 {X : Nat × (Nat → Int32)} {t d D : Nat} {Q : sm_Q} {Iz : sm_MI} {Jz : sm_MJ}
    (hD : 3 ≤ D) (hQ : Q (.inl none) (Iz, Jz, sm_rf t d))  : ∀ (n : Nat) (x2 : Int32) (x3 : Int32) (x4 : Int32) (I : sm_MI) (J : sm_MJ), F_Mo_readsRow_44 n x2 x3 x4 I J = some (Iz, Jz) → sm_W sm_sh X (sm_C sm_sh X sm_P D) me_188 Q (44, [some (.ref 61), none, some (.int x2), some (.int x3), some (.int x4), none], [], 0, 0) (I, J, sm_rf t d) := by
  intro n
  induction n with
  | zero => intro x2 x3 x4 I J h; cases (show (none : Option (sm_MI × sm_MJ)) = some (Iz, Jz) from h)
  | succ n ih => intro x2 x3 x4 I J h; exact G_Mo_readsRow_44B hD (show F_Mo_readsRow_44B (F_Mo_readsRow_44 n) x2 x3 x4 I J = some (Iz, Jz) from h) hQ  ih
theorem G_Mo_readsRow_26 {X : Nat × (Nat → Int32)} {t d D : Nat} {Q : sm_Q} {I : sm_MI} {J : sm_MJ} {x2 : Int32} {Iz : sm_MI} {Jz : sm_MJ}
    (hD : 3 ≤ D) (h : F_Mo_readsRow_26 x2 I J = some (Iz, Jz)) (hQ : Q (.inl none) (Iz, Jz, sm_rf t d))  : sm_W sm_sh X (sm_C sm_sh X sm_P D) me_188 Q (26, [some (.ref 61), none, some (.int x2), none, none, none], [], 0, 0) (I, J, sm_rf t d) := by
  unfold F_Mo_readsRow_26 at h
  refine sm_W.run (sm_C_mono D) 1 (G := True) (fr' := (27, [some (.ref 61), none, some (.int x2), none, none, none], [.ref 61], 0, 0)) (M' := (I, J, sm_rf t d)) rfl trivial ?_
  obtain ⟨r1, hc, h⟩ := sd_q1_go h
  refine sm_W.cal (sm_C_mono D) (y := 172) (as := [.ref 61]) (fr' := (28, [some (.ref 61), none, some (.int x2), none, none, none], [], 0, 0)) rfl (T_Mo_isGood (by omega) hc ?_)
  show sm_W sm_sh X (sm_C sm_sh X sm_P D) me_188 Q (28, [some (.ref 61), none, some (.int x2), none, none, none], [.int r1], 0, 0) (I, J, sm_rf t d)
  refine sm_W.run (sm_C_mono D) 1 (G := True) (fr' := (if decide (¬ r1 = 0) = true then 30 else 29, [some (.ref 61), none, some (.int x2), none, none, none], [], 0, 0)) (M' := (I, J, sm_rf t d)) rfl trivial (sm_W.iteD h (fun hc h => ?_) (fun hc h => ?_))
  · refine sm_W.run (sm_C_mono D) 1 (G := True) (fr' := (31, [some (.ref 61), none, some (.int x2), none, none, none], [.ref 61], 0, 0)) (M' := (I, J, sm_rf t d)) rfl trivial ?_
    obtain ⟨I2, J3, hc, h⟩ := sd_q2_go h
    refine sm_W.cal (sm_C_mono D) (y := 167) (as := [.ref 61]) (fr' := (32, [some (.ref 61), none, some (.int x2), none, none, none], [], 0, 0)) rfl (T_Mo_goes (by omega) hc ?_)
    show sm_W sm_sh X (sm_C sm_sh X sm_P D) me_188 Q (32, [some (.ref 61), none, some (.int x2), none, none, none], [], 0, 0) (I2, J3, sm_rf t d)
    refine sm_W.run (sm_C_mono D) 3 (G := True) (fr' := (35, [some (.ref 61), none, some (.int x2), none, none, none], [.int (4 : Int32), .int (1 : Int32), .ref 61], 0, 0)) (M' := (I2, J3, sm_rf t d)) rfl trivial ?_
    obtain ⟨r4, I5, J6, hc, h⟩ := sd_q3_go h
    refine sm_W.cal (sm_C_mono D) (y := 175) (as := [.ref 61, .int (1 : Int32), .int (4 : Int32)]) (fr' := (36, [some (.ref 61), none, some (.int x2), none, none, none], [], 0, 0)) rfl (T_Mo_number (by omega) hc ?_)
    show sm_W sm_sh X (sm_C sm_sh X sm_P D) me_188 Q (36, [some (.ref 61), none, some (.int x2), none, none, none], [.int r4], 0, 0) (I5, J6, sm_rf t d)
    obtain ⟨g7, h⟩ := sd_gu_go h
    refine sm_W.runL (sm_C_mono D) 6 (G := sm_in x2 20 = true ∧ True) (e := (sd_up I5 80 (Int32.toNatClampNeg x2) (0 : Int32))) (fr' := fun _ => (42, [some (.ref 61), none, some (.int x2), some (.int r4), none, none], [], 0, 0)) (M' := fun I8 => (I8, J6, sm_rf t d)) rfl h ⟨g7, trivial⟩ (fun I8 h => ?_)
    refine sm_W.run (sm_C_mono D) 2 (G := True) (fr' := (44, [some (.ref 61), none, some (.int x2), some (.int r4), some (.int (1 : Int32)), none], [], 0, 0)) (M' := (I8, J6, sm_rf t d)) rfl trivial ?_
    exact (G_Mo_readsRow_44 hD hQ sd_fu _ _ _ _ _ h)
  · cases h
    exact sm_W.ret (sm_C_mono D) rfl hQ
theorem G_Mo_readsRow_6 {X : Nat × (Nat → Int32)} {t d D : Nat} {Q : sm_Q} {I : sm_MI} {J : sm_MJ} {x1 : Int32} {Iz : sm_MI} {Jz : sm_MJ}
    (hD : 3 ≤ D) (h : F_Mo_readsRow_6 x1 I J = some (Iz, Jz)) (hQ : Q (.inl none) (Iz, Jz, sm_rf t d))  : sm_W sm_sh X (sm_C sm_sh X sm_P D) me_188 Q (6, [some (.ref 61), some (.int x1), none, none, none, none], [], 0, 0) (I, J, sm_rf t d) := by
  unfold F_Mo_readsRow_6 at h
  refine sm_W.runL (sm_C_mono D) 9 (G := True) (e := ((((4 : Int32) * (I 61 28)) - (4 : Int32)) + x1)) (fr' := fun a1 => (15, [some (.ref 61), some (.int x1), some (.int a1), none, none, none], [], 0, 0)) (M' := fun _ => (I, J, sm_rf t d)) rfl h trivial (fun a1 h => ?_)
  refine sm_W.run (sm_C_mono D) 1 (G := True) (fr' := (16, [some (.ref 61), some (.int x1), some (.int a1), none, none, none], [.ref 61], 0, 0)) (M' := (I, J, sm_rf t d)) rfl trivial ?_
  obtain ⟨r2, hc, h⟩ := sd_q1_go h
  refine sm_W.cal (sm_C_mono D) (y := 172) (as := [.ref 61]) (fr' := (17, [some (.ref 61), some (.int x1), some (.int a1), none, none, none], [], 0, 0)) rfl (T_Mo_isGood (by omega) hc ?_)
  show sm_W sm_sh X (sm_C sm_sh X sm_P D) me_188 Q (17, [some (.ref 61), some (.int x1), some (.int a1), none, none, none], [.int r2], 0, 0) (I, J, sm_rf t d)
  refine sm_W.run (sm_C_mono D) 1 (G := True) (fr' := (if decide (r2 = 0) = true then 26 else 18, [some (.ref 61), some (.int x1), some (.int a1), none, none, none], [], 0, 0)) (M' := (I, J, sm_rf t d)) rfl trivial (sm_W.iteD h (fun hc h => ?_) (fun hc h => ?_))
  · exact sm_W.forget (L' := [some (.ref 61), none, some (.int a1), none, none, none]) ⟨rfl, ⟨rfl, trivial⟩⟩ (G_Mo_readsRow_26 hD h hQ)
  · obtain ⟨g3, h⟩ := sd_gu_go h
    refine sm_W.run (sm_C_mono D) 5 (G := sm_in a1 20 = true ∧ True) (fr' := (if decide ((I 79 (Int32.toNatClampNeg a1)) ≤ 0) = true then 26 else 23, [some (.ref 61), some (.int x1), some (.int a1), none, none, none], [], 0, 0)) (M' := (I, J, sm_rf t d)) rfl ⟨g3, trivial⟩ (sm_W.iteD h (fun hc h => ?_) (fun hc h => ?_))
    · exact sm_W.forget (L' := [some (.ref 61), none, some (.int a1), none, none, none]) ⟨rfl, ⟨rfl, trivial⟩⟩ (G_Mo_readsRow_26 hD h hQ)
    · refine sm_W.run (sm_C_mono D) 2 (G := True) (fr' := (25, [some (.ref 61), some (.int x1), some (.int a1), none, none, none], [.int (4 : Int32), .ref 61], 0, 0)) (M' := (I, J, sm_rf t d)) rfl trivial ?_
      obtain ⟨I4, hc, h⟩ := sd_q1_go h
      refine sm_W.cal (sm_C_mono D) (y := 171) (as := [.ref 61, .int (4 : Int32)]) (fr' := (26, [some (.ref 61), some (.int x1), some (.int a1), none, none, none], [], 0, 0)) rfl (T_Mo_wrong (by omega) hc ?_)
      show sm_W sm_sh X (sm_C sm_sh X sm_P D) me_188 Q (26, [some (.ref 61), some (.int x1), some (.int a1), none, none, none], [], 0, 0) (I4, J, sm_rf t d)
      exact sm_W.forget (L' := [some (.ref 61), none, some (.int a1), none, none, none]) ⟨rfl, ⟨rfl, trivial⟩⟩ (G_Mo_readsRow_26 hD h hQ)
theorem G_Mo_readsRow {X : Nat × (Nat → Int32)} {t d D : Nat} {Q : sm_Q} {I : sm_MI} {J : sm_MJ} {x1 : Int32} {Iz : sm_MI} {Jz : sm_MJ}
    (hD : 3 ≤ D) (h : F_Mo_readsRow x1 I J = some (Iz, Jz)) (hQ : Q (.inl none) (Iz, Jz, sm_rf t d))  : sm_W sm_sh X (sm_C sm_sh X sm_P D) me_188 Q (0, [some (.ref 61), some (.int x1), none, none, none, none], [], 0, 0) (I, J, sm_rf t d) := by
  unfold F_Mo_readsRow at h
  refine sm_W.run (sm_C_mono D) 3 (G := True) (fr' := (if decide (¬ (I 61 28) = 0) = true then 6 else 3, [some (.ref 61), some (.int x1), none, none, none, none], [], 0, 0)) (M' := (I, J, sm_rf t d)) rfl trivial (sm_W.iteD h (fun hc h => ?_) (fun hc h => ?_))
  · exact (G_Mo_readsRow_6 hD h hQ)
  · refine sm_W.run (sm_C_mono D) 2 (G := True) (fr' := (5, [some (.ref 61), some (.int x1), none, none, none, none], [.int (1 : Int32), .ref 61], 0, 0)) (M' := (I, J, sm_rf t d)) rfl trivial ?_
    obtain ⟨I1, hc, h⟩ := sd_q1_go h
    refine sm_W.cal (sm_C_mono D) (y := 171) (as := [.ref 61, .int (1 : Int32)]) (fr' := (6, [some (.ref 61), some (.int x1), none, none, none, none], [], 0, 0)) rfl (T_Mo_wrong (by omega) hc ?_)
    show sm_W sm_sh X (sm_C sm_sh X sm_P D) me_188 Q (6, [some (.ref 61), some (.int x1), none, none, none, none], [], 0, 0) (I1, J, sm_rf t d)
    exact (G_Mo_readsRow_6 hD h hQ)
theorem T_Mo_readsRow {X : Nat × (Nat → Int32)} {t d D : Nat} {Q : sm_Q} {I : sm_MI} {J : sm_MJ} {x1 : Int32} {Iz : sm_MI} {Jz : sm_MJ}
    (hD : 4 ≤ D) (h : F_Mo_readsRow x1 I J = some (Iz, Jz)) (hQ : Q (.inl none) (Iz, Jz, sm_rf t d)) : sm_C sm_sh X sm_P D 188 [.ref 61, .int x1] (I, J, sm_rf t d) Q := by
  cases D with
  | zero => omega
  | succ D => exact sm_C.of (me := me_188) (L := [some (.ref 61), some (.int x1), none, none, none, none]) rfl rfl rfl (sm_W.forget (L' := [some (.ref 61), some (.int x1), none, none, none, none]) ⟨rfl, ⟨rfl, trivial⟩⟩ (G_Mo_readsRow (by omega) h hQ))
-- 189 Mo_readsRule
noncomputable def F_Mo_readsRule_60 (s1 : Int32) (s2 : Int32) (I : sm_MI) (J : sm_MJ) : Option (sm_MI × sm_MJ) :=
  sd_q2 (F_Mo_expression s1 s2 I J) fun I1 J2 =>
  some (I1, J2)
noncomputable def F_Mo_readsRule_55 (x1 : Int32) (s1 : Int32) (I : sm_MI) (J : sm_MJ) : Option (sm_MI × sm_MJ) :=
  if ¬ x1 = 0 then
    F_Mo_readsRule_60 s1 (9 : Int32) I J
  else
    F_Mo_readsRule_60 s1 (5 : Int32) I J
noncomputable def F_Mo_readsRule_37 (x1 : Int32) (x3 : Int32) (I : sm_MI) (J : sm_MJ) : Option (sm_MI × sm_MJ) :=
  sd_q1 (F_Mo_isGood I) fun r1 =>
  if ¬ r1 = 0 then
    sd_q2 (F_Mo_goes I J) fun I2 J3 =>
    sd_gu (sm_in x3 4 = true) <|
    sd_lt (sd_up I2 82 (Int32.toNatClampNeg x3) (I2 61 30)) fun I5 =>
    if ¬ x1 = 0 then
      F_Mo_readsRule_55 x1 (6 : Int32) I5 J3
    else
      F_Mo_readsRule_55 x1 (0 : Int32) I5 J3
  else
    some (I, J)
noncomputable def F_Mo_readsRule_23 (x1 : Int32) (s0 : Int32) (s1 : Int32) (I : sm_MI) (J : sm_MJ) : Option (sm_MI × sm_MJ) :=
  sd_lt (s0 + s1) fun a1 =>
  sd_q1 (F_Mo_isGood I) fun r2 =>
  if r2 = 0 then
    F_Mo_readsRule_37 x1 a1 I J
  else
    sd_gu (sm_in a1 4 = true) <|
    if (I 82 (Int32.toNatClampNeg a1)) = (-1 : Int32) then
      F_Mo_readsRule_37 x1 a1 I J
    else
      sd_q1 (F_Mo_wrong (5 : Int32) I) fun I4 =>
      F_Mo_readsRule_37 x1 a1 I4 J
noncomputable def F_Mo_readsRule_14 (x1 : Int32) (x2 : Int32) (I : sm_MI) (J : sm_MJ) : Option (sm_MI × sm_MJ) :=
  if ¬ x2 = (11 : Int32) then
    F_Mo_readsRule_23 x1 ((2 : Int32) * x1) (0 : Int32) I J
  else
    F_Mo_readsRule_23 x1 ((2 : Int32) * x1) (1 : Int32) I J
noncomputable def F_Mo_readsRule (x1 : Int32) (I : sm_MI) (J : sm_MJ) : Option (sm_MI × sm_MJ) :=
  sd_q2 (F_Mo_goes I J) fun I1 J2 =>
  sd_q1 (F_Mo_knownWord I1 J2) fun r3 =>
  if r3 = (10 : Int32) then
    F_Mo_readsRule_14 x1 r3 I1 J2
  else
    if r3 = (11 : Int32) then
      F_Mo_readsRule_14 x1 r3 I1 J2
    else
      sd_q1 (F_Mo_wrong (1 : Int32) I1) fun I4 =>
      F_Mo_readsRule_14 x1 r3 I4 J2
theorem G_Mo_readsRule_60 {X : Nat × (Nat → Int32)} {t d D : Nat} {Q : sm_Q} {I : sm_MI} {J : sm_MJ} {s1 : Int32} {s2 : Int32} {Iz : sm_MI} {Jz : sm_MJ}
    (hD : 6 ≤ D) (h : F_Mo_readsRule_60 s1 s2 I J = some (Iz, Jz)) (hQ : Q (.inl none) (Iz, Jz, sm_rf t d))  : sm_W sm_sh X (sm_C sm_sh X sm_P D) me_189 Q (60, [none, none, none, none], [.int s2, .int s1, .ref 61], 0, 0) (I, J, sm_rf t d) := by
  unfold F_Mo_readsRule_60 at h
  obtain ⟨I1, J2, hc, h⟩ := sd_q2_go h
  refine sm_W.cal (sm_C_mono D) (y := 186) (as := [.ref 61, .int s1, .int s2]) (fr' := (61, [none, none, none, none], [], 0, 0)) rfl (T_Mo_expression (by omega) hc ?_)
  show sm_W sm_sh X (sm_C sm_sh X sm_P D) me_189 Q (61, [none, none, none, none], [], 0, 0) (I1, J2, sm_rf t d)
  cases h
  exact sm_W.ret (sm_C_mono D) rfl hQ
theorem G_Mo_readsRule_55 {X : Nat × (Nat → Int32)} {t d D : Nat} {Q : sm_Q} {I : sm_MI} {J : sm_MJ} {x1 : Int32} {s1 : Int32} {Iz : sm_MI} {Jz : sm_MJ}
    (hD : 6 ≤ D) (h : F_Mo_readsRule_55 x1 s1 I J = some (Iz, Jz)) (hQ : Q (.inl none) (Iz, Jz, sm_rf t d))  : sm_W sm_sh X (sm_C sm_sh X sm_P D) me_189 Q (55, [none, some (.int x1), none, none], [.int s1, .ref 61], 0, 0) (I, J, sm_rf t d) := by
  unfold F_Mo_readsRule_55 at h
  refine sm_W.run (sm_C_mono D) 2 (G := True) (fr' := (if decide (¬ x1 = 0) = true then 59 else 57, [none, some (.int x1), none, none], [.int s1, .ref 61], 0, 0)) (M' := (I, J, sm_rf t d)) rfl trivial (sm_W.iteD h (fun hc h => ?_) (fun hc h => ?_))
  · refine sm_W.run (sm_C_mono D) 1 (G := True) (fr' := (60, [none, some (.int x1), none, none], [.int (9 : Int32), .int s1, .ref 61], 0, 0)) (M' := (I, J, sm_rf t d)) rfl trivial ?_
    exact sm_W.forget (L' := [none, none, none, none]) trivial (G_Mo_readsRule_60 hD h hQ)
  · refine sm_W.run (sm_C_mono D) 2 (G := True) (fr' := (60, [none, some (.int x1), none, none], [.int (5 : Int32), .int s1, .ref 61], 0, 0)) (M' := (I, J, sm_rf t d)) rfl trivial ?_
    exact sm_W.forget (L' := [none, none, none, none]) trivial (G_Mo_readsRule_60 hD h hQ)
theorem G_Mo_readsRule_37 {X : Nat × (Nat → Int32)} {t d D : Nat} {Q : sm_Q} {I : sm_MI} {J : sm_MJ} {x1 : Int32} {x3 : Int32} {Iz : sm_MI} {Jz : sm_MJ}
    (hD : 6 ≤ D) (h : F_Mo_readsRule_37 x1 x3 I J = some (Iz, Jz)) (hQ : Q (.inl none) (Iz, Jz, sm_rf t d))  : sm_W sm_sh X (sm_C sm_sh X sm_P D) me_189 Q (37, [some (.ref 61), some (.int x1), none, some (.int x3)], [], 0, 0) (I, J, sm_rf t d) := by
  unfold F_Mo_readsRule_37 at h
  refine sm_W.run (sm_C_mono D) 1 (G := True) (fr' := (38, [some (.ref 61), some (.int x1), none, some (.int x3)], [.ref 61], 0, 0)) (M' := (I, J, sm_rf t d)) rfl trivial ?_
  obtain ⟨r1, hc, h⟩ := sd_q1_go h
  refine sm_W.cal (sm_C_mono D) (y := 172) (as := [.ref 61]) (fr' := (39, [some (.ref 61), some (.int x1), none, some (.int x3)], [], 0, 0)) rfl (T_Mo_isGood (by omega) hc ?_)
  show sm_W sm_sh X (sm_C sm_sh X sm_P D) me_189 Q (39, [some (.ref 61), some (.int x1), none, some (.int x3)], [.int r1], 0, 0) (I, J, sm_rf t d)
  refine sm_W.run (sm_C_mono D) 1 (G := True) (fr' := (if decide (¬ r1 = 0) = true then 41 else 40, [some (.ref 61), some (.int x1), none, some (.int x3)], [], 0, 0)) (M' := (I, J, sm_rf t d)) rfl trivial (sm_W.iteD h (fun hc h => ?_) (fun hc h => ?_))
  · refine sm_W.run (sm_C_mono D) 1 (G := True) (fr' := (42, [some (.ref 61), some (.int x1), none, some (.int x3)], [.ref 61], 0, 0)) (M' := (I, J, sm_rf t d)) rfl trivial ?_
    obtain ⟨I2, J3, hc, h⟩ := sd_q2_go h
    refine sm_W.cal (sm_C_mono D) (y := 167) (as := [.ref 61]) (fr' := (43, [some (.ref 61), some (.int x1), none, some (.int x3)], [], 0, 0)) rfl (T_Mo_goes (by omega) hc ?_)
    show sm_W sm_sh X (sm_C sm_sh X sm_P D) me_189 Q (43, [some (.ref 61), some (.int x1), none, some (.int x3)], [], 0, 0) (I2, J3, sm_rf t d)
    obtain ⟨g4, h⟩ := sd_gu_go h
    refine sm_W.runL (sm_C_mono D) 6 (G := sm_in x3 4 = true ∧ True) (e := (sd_up I2 82 (Int32.toNatClampNeg x3) (I2 61 30))) (fr' := fun _ => (49, [some (.ref 61), some (.int x1), none, some (.int x3)], [], 0, 0)) (M' := fun I5 => (I5, J3, sm_rf t d)) rfl h ⟨g4, trivial⟩ (fun I5 h => ?_)
    refine sm_W.run (sm_C_mono D) 3 (G := True) (fr' := (if decide (¬ x1 = 0) = true then 54 else 52, [some (.ref 61), some (.int x1), none, some (.int x3)], [.ref 61], 0, 0)) (M' := (I5, J3, sm_rf t d)) rfl trivial (sm_W.iteD h (fun hc h => ?_) (fun hc h => ?_))
    · refine sm_W.run (sm_C_mono D) 1 (G := True) (fr' := (55, [some (.ref 61), some (.int x1), none, some (.int x3)], [.int (6 : Int32), .ref 61], 0, 0)) (M' := (I5, J3, sm_rf t d)) rfl trivial ?_
      exact sm_W.forget (L' := [none, some (.int x1), none, none]) ⟨rfl, trivial⟩ (G_Mo_readsRule_55 hD h hQ)
    · refine sm_W.run (sm_C_mono D) 2 (G := True) (fr' := (55, [some (.ref 61), some (.int x1), none, some (.int x3)], [.int (0 : Int32), .ref 61], 0, 0)) (M' := (I5, J3, sm_rf t d)) rfl trivial ?_
      exact sm_W.forget (L' := [none, some (.int x1), none, none]) ⟨rfl, trivial⟩ (G_Mo_readsRule_55 hD h hQ)
  · cases h
    exact sm_W.ret (sm_C_mono D) rfl hQ
theorem G_Mo_readsRule_23 {X : Nat × (Nat → Int32)} {t d D : Nat} {Q : sm_Q} {I : sm_MI} {J : sm_MJ} {x1 : Int32} {s0 : Int32} {s1 : Int32} {Iz : sm_MI} {Jz : sm_MJ}
    (hD : 6 ≤ D) (h : F_Mo_readsRule_23 x1 s0 s1 I J = some (Iz, Jz)) (hQ : Q (.inl none) (Iz, Jz, sm_rf t d))  : sm_W sm_sh X (sm_C sm_sh X sm_P D) me_189 Q (23, [some (.ref 61), some (.int x1), none, none], [.int s1, .int s0], 0, 0) (I, J, sm_rf t d) := by
  unfold F_Mo_readsRule_23 at h
  refine sm_W.runL (sm_C_mono D) 2 (G := True) (e := (s0 + s1)) (fr' := fun a1 => (25, [some (.ref 61), some (.int x1), none, some (.int a1)], [], 0, 0)) (M' := fun _ => (I, J, sm_rf t d)) rfl h trivial (fun a1 h => ?_)
  refine sm_W.run (sm_C_mono D) 1 (G := True) (fr' := (26, [some (.ref 61), some (.int x1), none, some (.int a1)], [.ref 61], 0, 0)) (M' := (I, J, sm_rf t d)) rfl trivial ?_
  obtain ⟨r2, hc, h⟩ := sd_q1_go h
  refine sm_W.cal (sm_C_mono D) (y := 172) (as := [.ref 61]) (fr' := (27, [some (.ref 61), some (.int x1), none, some (.int a1)], [], 0, 0)) rfl (T_Mo_isGood (by omega) hc ?_)
  show sm_W sm_sh X (sm_C sm_sh X sm_P D) me_189 Q (27, [some (.ref 61), some (.int x1), none, some (.int a1)], [.int r2], 0, 0) (I, J, sm_rf t d)
  refine sm_W.run (sm_C_mono D) 1 (G := True) (fr' := (if decide (r2 = 0) = true then 37 else 28, [some (.ref 61), some (.int x1), none, some (.int a1)], [], 0, 0)) (M' := (I, J, sm_rf t d)) rfl trivial (sm_W.iteD h (fun hc h => ?_) (fun hc h => ?_))
  · exact (G_Mo_readsRule_37 hD h hQ)
  · obtain ⟨g3, h⟩ := sd_gu_go h
    refine sm_W.run (sm_C_mono D) 6 (G := sm_in a1 4 = true ∧ True) (fr' := (if decide ((I 82 (Int32.toNatClampNeg a1)) = (-1 : Int32)) = true then 37 else 34, [some (.ref 61), some (.int x1), none, some (.int a1)], [], 0, 0)) (M' := (I, J, sm_rf t d)) rfl ⟨g3, trivial⟩ (sm_W.iteD h (fun hc h => ?_) (fun hc h => ?_))
    · exact (G_Mo_readsRule_37 hD h hQ)
    · refine sm_W.run (sm_C_mono D) 2 (G := True) (fr' := (36, [some (.ref 61), some (.int x1), none, some (.int a1)], [.int (5 : Int32), .ref 61], 0, 0)) (M' := (I, J, sm_rf t d)) rfl trivial ?_
      obtain ⟨I4, hc, h⟩ := sd_q1_go h
      refine sm_W.cal (sm_C_mono D) (y := 171) (as := [.ref 61, .int (5 : Int32)]) (fr' := (37, [some (.ref 61), some (.int x1), none, some (.int a1)], [], 0, 0)) rfl (T_Mo_wrong (by omega) hc ?_)
      show sm_W sm_sh X (sm_C sm_sh X sm_P D) me_189 Q (37, [some (.ref 61), some (.int x1), none, some (.int a1)], [], 0, 0) (I4, J, sm_rf t d)
      exact (G_Mo_readsRule_37 hD h hQ)
theorem G_Mo_readsRule_14 {X : Nat × (Nat → Int32)} {t d D : Nat} {Q : sm_Q} {I : sm_MI} {J : sm_MJ} {x1 : Int32} {x2 : Int32} {Iz : sm_MI} {Jz : sm_MJ}
    (hD : 6 ≤ D) (h : F_Mo_readsRule_14 x1 x2 I J = some (Iz, Jz)) (hQ : Q (.inl none) (Iz, Jz, sm_rf t d))  : sm_W sm_sh X (sm_C sm_sh X sm_P D) me_189 Q (14, [some (.ref 61), some (.int x1), some (.int x2), none], [], 0, 0) (I, J, sm_rf t d) := by
  unfold F_Mo_readsRule_14 at h
  refine sm_W.run (sm_C_mono D) 6 (G := True) (fr' := (if decide (¬ x2 = (11 : Int32)) = true then 22 else 20, [some (.ref 61), some (.int x1), some (.int x2), none], [.int ((2 : Int32) * x1)], 0, 0)) (M' := (I, J, sm_rf t d)) rfl trivial (sm_W.iteD h (fun hc h => ?_) (fun hc h => ?_))
  · refine sm_W.run (sm_C_mono D) 1 (G := True) (fr' := (23, [some (.ref 61), some (.int x1), some (.int x2), none], [.int (0 : Int32), .int ((2 : Int32) * x1)], 0, 0)) (M' := (I, J, sm_rf t d)) rfl trivial ?_
    exact sm_W.forget (L' := [some (.ref 61), some (.int x1), none, none]) ⟨rfl, ⟨rfl, trivial⟩⟩ (G_Mo_readsRule_23 hD h hQ)
  · refine sm_W.run (sm_C_mono D) 2 (G := True) (fr' := (23, [some (.ref 61), some (.int x1), some (.int x2), none], [.int (1 : Int32), .int ((2 : Int32) * x1)], 0, 0)) (M' := (I, J, sm_rf t d)) rfl trivial ?_
    exact sm_W.forget (L' := [some (.ref 61), some (.int x1), none, none]) ⟨rfl, ⟨rfl, trivial⟩⟩ (G_Mo_readsRule_23 hD h hQ)
theorem G_Mo_readsRule {X : Nat × (Nat → Int32)} {t d D : Nat} {Q : sm_Q} {I : sm_MI} {J : sm_MJ} {x1 : Int32} {Iz : sm_MI} {Jz : sm_MJ}
    (hD : 6 ≤ D) (h : F_Mo_readsRule x1 I J = some (Iz, Jz)) (hQ : Q (.inl none) (Iz, Jz, sm_rf t d))  : sm_W sm_sh X (sm_C sm_sh X sm_P D) me_189 Q (0, [some (.ref 61), some (.int x1), none, none], [], 0, 0) (I, J, sm_rf t d) := by
  unfold F_Mo_readsRule at h
  refine sm_W.run (sm_C_mono D) 1 (G := True) (fr' := (1, [some (.ref 61), some (.int x1), none, none], [.ref 61], 0, 0)) (M' := (I, J, sm_rf t d)) rfl trivial ?_
  obtain ⟨I1, J2, hc, h⟩ := sd_q2_go h
  refine sm_W.cal (sm_C_mono D) (y := 167) (as := [.ref 61]) (fr' := (2, [some (.ref 61), some (.int x1), none, none], [], 0, 0)) rfl (T_Mo_goes (by omega) hc ?_)
  show sm_W sm_sh X (sm_C sm_sh X sm_P D) me_189 Q (2, [some (.ref 61), some (.int x1), none, none], [], 0, 0) (I1, J2, sm_rf t d)
  refine sm_W.run (sm_C_mono D) 1 (G := True) (fr' := (3, [some (.ref 61), some (.int x1), none, none], [.ref 61], 0, 0)) (M' := (I1, J2, sm_rf t d)) rfl trivial ?_
  obtain ⟨r3, hc, h⟩ := sd_q1_go h
  refine sm_W.cal (sm_C_mono D) (y := 170) (as := [.ref 61]) (fr' := (4, [some (.ref 61), some (.int x1), none, none], [], 0, 0)) rfl (T_Mo_knownWord (by omega) hc ?_)
  show sm_W sm_sh X (sm_C sm_sh X sm_P D) me_189 Q (4, [some (.ref 61), some (.int x1), none, none], [.int r3], 0, 0) (I1, J2, sm_rf t d)
  refine sm_W.run (sm_C_mono D) 4 (G := True) (fr' := (if decide (r3 = (10 : Int32)) = true then 14 else 8, [some (.ref 61), some (.int x1), some (.int r3), none], [], 0, 0)) (M' := (I1, J2, sm_rf t d)) rfl trivial (sm_W.iteD h (fun hc h => ?_) (fun hc h => ?_))
  · exact (G_Mo_readsRule_14 hD h hQ)
  · refine sm_W.run (sm_C_mono D) 3 (G := True) (fr' := (if decide (r3 = (11 : Int32)) = true then 14 else 11, [some (.ref 61), some (.int x1), some (.int r3), none], [], 0, 0)) (M' := (I1, J2, sm_rf t d)) rfl trivial (sm_W.iteD h (fun hc h => ?_) (fun hc h => ?_))
    · exact (G_Mo_readsRule_14 hD h hQ)
    · refine sm_W.run (sm_C_mono D) 2 (G := True) (fr' := (13, [some (.ref 61), some (.int x1), some (.int r3), none], [.int (1 : Int32), .ref 61], 0, 0)) (M' := (I1, J2, sm_rf t d)) rfl trivial ?_
      obtain ⟨I4, hc, h⟩ := sd_q1_go h
      refine sm_W.cal (sm_C_mono D) (y := 171) (as := [.ref 61, .int (1 : Int32)]) (fr' := (14, [some (.ref 61), some (.int x1), some (.int r3), none], [], 0, 0)) rfl (T_Mo_wrong (by omega) hc ?_)
      show sm_W sm_sh X (sm_C sm_sh X sm_P D) me_189 Q (14, [some (.ref 61), some (.int x1), some (.int r3), none], [], 0, 0) (I4, J2, sm_rf t d)
      exact (G_Mo_readsRule_14 hD h hQ)
theorem T_Mo_readsRule {X : Nat × (Nat → Int32)} {t d D : Nat} {Q : sm_Q} {I : sm_MI} {J : sm_MJ} {x1 : Int32} {Iz : sm_MI} {Jz : sm_MJ}
    (hD : 7 ≤ D) (h : F_Mo_readsRule x1 I J = some (Iz, Jz)) (hQ : Q (.inl none) (Iz, Jz, sm_rf t d)) : sm_C sm_sh X sm_P D 189 [.ref 61, .int x1] (I, J, sm_rf t d) Q := by
  cases D with
  | zero => omega
  | succ D => exact sm_C.of (me := me_189) (L := [some (.ref 61), some (.int x1), none, none]) rfl rfl rfl (sm_W.forget (L' := [some (.ref 61), some (.int x1), none, none]) ⟨rfl, ⟨rfl, trivial⟩⟩ (G_Mo_readsRule (by omega) h hQ))
-- 190 Mo_line
noncomputable def F_Mo_line_86 (I : sm_MI) (J : sm_MJ) : Option (sm_MI × sm_MJ) :=
  sd_q1 (F_Mo_isSign (59 : Int32) I) fun r1 =>
  sd_q2 (F_Mo_need r1 I J) fun I2 J3 =>
  some (I2, J3)
noncomputable def F_Mo_line_77 (x1 : Int32) (I : sm_MI) (J : sm_MJ) : Option (sm_MI × sm_MJ) :=
  sd_q2 (F_Mo_readsRule (x1 - (19 : Int32)) I J) fun I1 J2 =>
  F_Mo_line_86 I1 J2
noncomputable def F_Mo_line_58 (I : sm_MI) (J : sm_MJ) : Option (sm_MI × sm_MJ) :=
  sd_q1 (F_Mo_isGood I) fun r1 =>
  if ¬ r1 = 0 then
    sd_q2 (F_Mo_goes I J) fun I2 J3 =>
    sd_q3 (F_Mo_number (1 : Int32) (9 : Int32) I2 J3) fun r4 I5 J6 =>
    sd_lt (sd_up I5 61 29 r4) fun I7 =>
    F_Mo_line_86 I7 J6
  else
    some (I, J)
noncomputable def F_Mo_line_35 (I : sm_MI) (J : sm_MJ) : Option (sm_MI × sm_MJ) :=
  sd_q1 (F_Mo_isGood I) fun r1 =>
  if ¬ r1 = 0 then
    sd_q2 (F_Mo_goes I J) fun I2 J3 =>
    sd_lt (sd_up I2 61 28 ((I2 61 28) + (1 : Int32))) fun I4 =>
    F_Mo_line_86 I4 J3
  else
    some (I, J)
noncomputable def F_Mo_line_25 (x1 : Int32) (I : sm_MI) (J : sm_MJ) : Option (sm_MI × sm_MJ) :=
  if ¬ x1 = (17 : Int32) then
    if ¬ x1 = (18 : Int32) then
      if x1 = (19 : Int32) then
        F_Mo_line_77 x1 I J
      else
        if ¬ x1 = (20 : Int32) then
          sd_q1 (F_Mo_wrong (1 : Int32) I) fun I1 =>
          F_Mo_line_86 I1 J
        else
          F_Mo_line_77 x1 I J
    else
      if (I 61 29) = (-1 : Int32) then
        F_Mo_line_58 I J
      else
        sd_q1 (F_Mo_wrong (5 : Int32) I) fun I2 =>
        F_Mo_line_58 I2 J
  else
    if ¬ (I 61 28) = (5 : Int32) then
      F_Mo_line_35 I J
    else
      sd_q1 (F_Mo_wrong (2 : Int32) I) fun I3 =>
      F_Mo_line_35 I3 J
noncomputable def F_Mo_line_13 (x1 : Int32) (I : sm_MI) (J : sm_MJ) : Option (sm_MI × sm_MJ) :=
  if x1 < (13 : Int32) then
    F_Mo_line_25 x1 I J
  else
    if (16 : Int32) < x1 then
      F_Mo_line_25 x1 I J
    else
      sd_q2 (F_Mo_readsRow (x1 - (13 : Int32)) I J) fun I1 J2 =>
      F_Mo_line_86 I1 J2
noncomputable def F_Mo_line (I : sm_MI) (J : sm_MJ) : Option (sm_MI × sm_MJ) :=
  sd_q1 (F_Mo_knownWord I J) fun r1 =>
  if r1 < (10 : Int32) then
    F_Mo_line_13 r1 I J
  else
    if (12 : Int32) < r1 then
      F_Mo_line_13 r1 I J
    else
      sd_q2 (F_Mo_readsSinger r1 I J) fun I2 J3 =>
      F_Mo_line_86 I2 J3
theorem G_Mo_line_86 {X : Nat × (Nat → Int32)} {t d D : Nat} {Q : sm_Q} {I : sm_MI} {J : sm_MJ} {Iz : sm_MI} {Jz : sm_MJ}
    (hD : 7 ≤ D) (h : F_Mo_line_86 I J = some (Iz, Jz)) (hQ : Q (.inl none) (Iz, Jz, sm_rf t d))  : sm_W sm_sh X (sm_C sm_sh X sm_P D) me_190 Q (86, [some (.ref 61), none], [], 0, 0) (I, J, sm_rf t d) := by
  unfold F_Mo_line_86 at h
  refine sm_W.run (sm_C_mono D) 3 (G := True) (fr' := (89, [some (.ref 61), none], [.int (59 : Int32), .ref 61, .ref 61], 0, 0)) (M' := (I, J, sm_rf t d)) rfl trivial ?_
  obtain ⟨r1, hc, h⟩ := sd_q1_go h
  refine sm_W.cal (sm_C_mono D) (y := 173) (as := [.ref 61, .int (59 : Int32)]) (fr' := (90, [some (.ref 61), none], [.ref 61], 0, 0)) rfl (T_Mo_isSign (by omega) hc ?_)
  show sm_W sm_sh X (sm_C sm_sh X sm_P D) me_190 Q (90, [some (.ref 61), none], [.int r1, .ref 61], 0, 0) (I, J, sm_rf t d)
  obtain ⟨I2, J3, hc, h⟩ := sd_q2_go h
  refine sm_W.cal (sm_C_mono D) (y := 174) (as := [.ref 61, .int r1]) (fr' := (91, [some (.ref 61), none], [], 0, 0)) rfl (T_Mo_need (by omega) hc ?_)
  show sm_W sm_sh X (sm_C sm_sh X sm_P D) me_190 Q (91, [some (.ref 61), none], [], 0, 0) (I2, J3, sm_rf t d)
  cases h
  exact sm_W.ret (sm_C_mono D) rfl hQ
theorem G_Mo_line_77 {X : Nat × (Nat → Int32)} {t d D : Nat} {Q : sm_Q} {I : sm_MI} {J : sm_MJ} {x1 : Int32} {Iz : sm_MI} {Jz : sm_MJ}
    (hD : 7 ≤ D) (h : F_Mo_line_77 x1 I J = some (Iz, Jz)) (hQ : Q (.inl none) (Iz, Jz, sm_rf t d))  : sm_W sm_sh X (sm_C sm_sh X sm_P D) me_190 Q (77, [some (.ref 61), some (.int x1)], [], 0, 0) (I, J, sm_rf t d) := by
  unfold F_Mo_line_77 at h
  refine sm_W.run (sm_C_mono D) 4 (G := True) (fr' := (81, [some (.ref 61), some (.int x1)], [.int (x1 - (19 : Int32)), .ref 61], 0, 0)) (M' := (I, J, sm_rf t d)) rfl trivial ?_
  obtain ⟨I1, J2, hc, h⟩ := sd_q2_go h
  refine sm_W.cal (sm_C_mono D) (y := 189) (as := [.ref 61, .int (x1 - (19 : Int32))]) (fr' := (82, [some (.ref 61), some (.int x1)], [], 0, 0)) rfl (T_Mo_readsRule (by omega) hc ?_)
  show sm_W sm_sh X (sm_C sm_sh X sm_P D) me_190 Q (82, [some (.ref 61), some (.int x1)], [], 0, 0) (I1, J2, sm_rf t d)
  refine sm_W.run (sm_C_mono D) 1 (G := True) (fr' := (86, [some (.ref 61), some (.int x1)], [], 0, 0)) (M' := (I1, J2, sm_rf t d)) rfl trivial ?_
  exact sm_W.forget (L' := [some (.ref 61), none]) ⟨rfl, trivial⟩ (G_Mo_line_86 hD h hQ)
theorem G_Mo_line_58 {X : Nat × (Nat → Int32)} {t d D : Nat} {Q : sm_Q} {I : sm_MI} {J : sm_MJ} {Iz : sm_MI} {Jz : sm_MJ}
    (hD : 7 ≤ D) (h : F_Mo_line_58 I J = some (Iz, Jz)) (hQ : Q (.inl none) (Iz, Jz, sm_rf t d))  : sm_W sm_sh X (sm_C sm_sh X sm_P D) me_190 Q (58, [some (.ref 61), none], [], 0, 0) (I, J, sm_rf t d) := by
  unfold F_Mo_line_58 at h
  refine sm_W.run (sm_C_mono D) 1 (G := True) (fr' := (59, [some (.ref 61), none], [.ref 61], 0, 0)) (M' := (I, J, sm_rf t d)) rfl trivial ?_
  obtain ⟨r1, hc, h⟩ := sd_q1_go h
  refine sm_W.cal (sm_C_mono D) (y := 172) (as := [.ref 61]) (fr' := (60, [some (.ref 61), none], [], 0, 0)) rfl (T_Mo_isGood (by omega) hc ?_)
  show sm_W sm_sh X (sm_C sm_sh X sm_P D) me_190 Q (60, [some (.ref 61), none], [.int r1], 0, 0) (I, J, sm_rf t d)
  refine sm_W.run (sm_C_mono D) 1 (G := True) (fr' := (if decide (¬ r1 = 0) = true then 62 else 61, [some (.ref 61), none], [], 0, 0)) (M' := (I, J, sm_rf t d)) rfl trivial (sm_W.iteD h (fun hc h => ?_) (fun hc h => ?_))
  · refine sm_W.run (sm_C_mono D) 1 (G := True) (fr' := (63, [some (.ref 61), none], [.ref 61], 0, 0)) (M' := (I, J, sm_rf t d)) rfl trivial ?_
    obtain ⟨I2, J3, hc, h⟩ := sd_q2_go h
    refine sm_W.cal (sm_C_mono D) (y := 167) (as := [.ref 61]) (fr' := (64, [some (.ref 61), none], [], 0, 0)) rfl (T_Mo_goes (by omega) hc ?_)
    show sm_W sm_sh X (sm_C sm_sh X sm_P D) me_190 Q (64, [some (.ref 61), none], [], 0, 0) (I2, J3, sm_rf t d)
    refine sm_W.run (sm_C_mono D) 4 (G := True) (fr' := (68, [some (.ref 61), none], [.int (9 : Int32), .int (1 : Int32), .ref 61, .ref 61], 0, 0)) (M' := (I2, J3, sm_rf t d)) rfl trivial ?_
    obtain ⟨r4, I5, J6, hc, h⟩ := sd_q3_go h
    refine sm_W.cal (sm_C_mono D) (y := 175) (as := [.ref 61, .int (1 : Int32), .int (9 : Int32)]) (fr' := (69, [some (.ref 61), none], [.ref 61], 0, 0)) rfl (T_Mo_number (by omega) hc ?_)
    show sm_W sm_sh X (sm_C sm_sh X sm_P D) me_190 Q (69, [some (.ref 61), none], [.int r4, .ref 61], 0, 0) (I5, J6, sm_rf t d)
    refine sm_W.runL (sm_C_mono D) 1 (G := True) (e := (sd_up I5 61 29 r4)) (fr' := fun _ => (70, [some (.ref 61), none], [], 0, 0)) (M' := fun I7 => (I7, J6, sm_rf t d)) rfl h trivial (fun I7 h => ?_)
    refine sm_W.run (sm_C_mono D) 1 (G := True) (fr' := (86, [some (.ref 61), none], [], 0, 0)) (M' := (I7, J6, sm_rf t d)) rfl trivial ?_
    exact (G_Mo_line_86 hD h hQ)
  · cases h
    exact sm_W.ret (sm_C_mono D) rfl hQ
theorem G_Mo_line_35 {X : Nat × (Nat → Int32)} {t d D : Nat} {Q : sm_Q} {I : sm_MI} {J : sm_MJ} {Iz : sm_MI} {Jz : sm_MJ}
    (hD : 7 ≤ D) (h : F_Mo_line_35 I J = some (Iz, Jz)) (hQ : Q (.inl none) (Iz, Jz, sm_rf t d))  : sm_W sm_sh X (sm_C sm_sh X sm_P D) me_190 Q (35, [some (.ref 61), none], [], 0, 0) (I, J, sm_rf t d) := by
  unfold F_Mo_line_35 at h
  refine sm_W.run (sm_C_mono D) 1 (G := True) (fr' := (36, [some (.ref 61), none], [.ref 61], 0, 0)) (M' := (I, J, sm_rf t d)) rfl trivial ?_
  obtain ⟨r1, hc, h⟩ := sd_q1_go h
  refine sm_W.cal (sm_C_mono D) (y := 172) (as := [.ref 61]) (fr' := (37, [some (.ref 61), none], [], 0, 0)) rfl (T_Mo_isGood (by omega) hc ?_)
  show sm_W sm_sh X (sm_C sm_sh X sm_P D) me_190 Q (37, [some (.ref 61), none], [.int r1], 0, 0) (I, J, sm_rf t d)
  refine sm_W.run (sm_C_mono D) 1 (G := True) (fr' := (if decide (¬ r1 = 0) = true then 39 else 38, [some (.ref 61), none], [], 0, 0)) (M' := (I, J, sm_rf t d)) rfl trivial (sm_W.iteD h (fun hc h => ?_) (fun hc h => ?_))
  · refine sm_W.run (sm_C_mono D) 1 (G := True) (fr' := (40, [some (.ref 61), none], [.ref 61], 0, 0)) (M' := (I, J, sm_rf t d)) rfl trivial ?_
    obtain ⟨I2, J3, hc, h⟩ := sd_q2_go h
    refine sm_W.cal (sm_C_mono D) (y := 167) (as := [.ref 61]) (fr' := (41, [some (.ref 61), none], [], 0, 0)) rfl (T_Mo_goes (by omega) hc ?_)
    show sm_W sm_sh X (sm_C sm_sh X sm_P D) me_190 Q (41, [some (.ref 61), none], [], 0, 0) (I2, J3, sm_rf t d)
    refine sm_W.runL (sm_C_mono D) 6 (G := True) (e := (sd_up I2 61 28 ((I2 61 28) + (1 : Int32)))) (fr' := fun _ => (47, [some (.ref 61), none], [], 0, 0)) (M' := fun I4 => (I4, J3, sm_rf t d)) rfl h trivial (fun I4 h => ?_)
    refine sm_W.run (sm_C_mono D) 1 (G := True) (fr' := (86, [some (.ref 61), none], [], 0, 0)) (M' := (I4, J3, sm_rf t d)) rfl trivial ?_
    exact (G_Mo_line_86 hD h hQ)
  · cases h
    exact sm_W.ret (sm_C_mono D) rfl hQ
theorem G_Mo_line_25 {X : Nat × (Nat → Int32)} {t d D : Nat} {Q : sm_Q} {I : sm_MI} {J : sm_MJ} {x1 : Int32} {Iz : sm_MI} {Jz : sm_MJ}
    (hD : 7 ≤ D) (h : F_Mo_line_25 x1 I J = some (Iz, Jz)) (hQ : Q (.inl none) (Iz, Jz, sm_rf t d))  : sm_W sm_sh X (sm_C sm_sh X sm_P D) me_190 Q (25, [some (.ref 61), some (.int x1)], [], 0, 0) (I, J, sm_rf t d) := by
  unfold F_Mo_line_25 at h
  refine sm_W.run (sm_C_mono D) 3 (G := True) (fr' := (if decide (¬ x1 = (17 : Int32)) = true then 48 else 28, [some (.ref 61), some (.int x1)], [], 0, 0)) (M' := (I, J, sm_rf t d)) rfl trivial (sm_W.iteD h (fun hc h => ?_) (fun hc h => ?_))
  · refine sm_W.run (sm_C_mono D) 3 (G := True) (fr' := (if decide (¬ x1 = (18 : Int32)) = true then 71 else 51, [some (.ref 61), some (.int x1)], [], 0, 0)) (M' := (I, J, sm_rf t d)) rfl trivial (sm_W.iteD h (fun hc h => ?_) (fun hc h => ?_))
    · refine sm_W.run (sm_C_mono D) 3 (G := True) (fr' := (if decide (x1 = (19 : Int32)) = true then 77 else 74, [some (.ref 61), some (.int x1)], [], 0, 0)) (M' := (I, J, sm_rf t d)) rfl trivial (sm_W.iteD h (fun hc h => ?_) (fun hc h => ?_))
      · exact (G_Mo_line_77 hD h hQ)
      · refine sm_W.run (sm_C_mono D) 3 (G := True) (fr' := (if decide (¬ x1 = (20 : Int32)) = true then 83 else 77, [some (.ref 61), some (.int x1)], [], 0, 0)) (M' := (I, J, sm_rf t d)) rfl trivial (sm_W.iteD h (fun hc h => ?_) (fun hc h => ?_))
        · refine sm_W.run (sm_C_mono D) 2 (G := True) (fr' := (85, [some (.ref 61), some (.int x1)], [.int (1 : Int32), .ref 61], 0, 0)) (M' := (I, J, sm_rf t d)) rfl trivial ?_
          obtain ⟨I1, hc, h⟩ := sd_q1_go h
          refine sm_W.cal (sm_C_mono D) (y := 171) (as := [.ref 61, .int (1 : Int32)]) (fr' := (86, [some (.ref 61), some (.int x1)], [], 0, 0)) rfl (T_Mo_wrong (by omega) hc ?_)
          show sm_W sm_sh X (sm_C sm_sh X sm_P D) me_190 Q (86, [some (.ref 61), some (.int x1)], [], 0, 0) (I1, J, sm_rf t d)
          exact sm_W.forget (L' := [some (.ref 61), none]) ⟨rfl, trivial⟩ (G_Mo_line_86 hD h hQ)
        · exact (G_Mo_line_77 hD h hQ)
    · refine sm_W.run (sm_C_mono D) 4 (G := True) (fr' := (if decide ((I 61 29) = (-1 : Int32)) = true then 58 else 55, [some (.ref 61), some (.int x1)], [], 0, 0)) (M' := (I, J, sm_rf t d)) rfl trivial (sm_W.iteD h (fun hc h => ?_) (fun hc h => ?_))
      · exact sm_W.forget (L' := [some (.ref 61), none]) ⟨rfl, trivial⟩ (G_Mo_line_58 hD h hQ)
      · refine sm_W.run (sm_C_mono D) 2 (G := True) (fr' := (57, [some (.ref 61), some (.int x1)], [.int (5 : Int32), .ref 61], 0, 0)) (M' := (I, J, sm_rf t d)) rfl trivial ?_
        obtain ⟨I2, hc, h⟩ := sd_q1_go h
        refine sm_W.cal (sm_C_mono D) (y := 171) (as := [.ref 61, .int (5 : Int32)]) (fr' := (58, [some (.ref 61), some (.int x1)], [], 0, 0)) rfl (T_Mo_wrong (by omega) hc ?_)
        show sm_W sm_sh X (sm_C sm_sh X sm_P D) me_190 Q (58, [some (.ref 61), some (.int x1)], [], 0, 0) (I2, J, sm_rf t d)
        exact sm_W.forget (L' := [some (.ref 61), none]) ⟨rfl, trivial⟩ (G_Mo_line_58 hD h hQ)
  · refine sm_W.run (sm_C_mono D) 4 (G := True) (fr' := (if decide (¬ (I 61 28) = (5 : Int32)) = true then 35 else 32, [some (.ref 61), some (.int x1)], [], 0, 0)) (M' := (I, J, sm_rf t d)) rfl trivial (sm_W.iteD h (fun hc h => ?_) (fun hc h => ?_))
    · exact sm_W.forget (L' := [some (.ref 61), none]) ⟨rfl, trivial⟩ (G_Mo_line_35 hD h hQ)
    · refine sm_W.run (sm_C_mono D) 2 (G := True) (fr' := (34, [some (.ref 61), some (.int x1)], [.int (2 : Int32), .ref 61], 0, 0)) (M' := (I, J, sm_rf t d)) rfl trivial ?_
      obtain ⟨I3, hc, h⟩ := sd_q1_go h
      refine sm_W.cal (sm_C_mono D) (y := 171) (as := [.ref 61, .int (2 : Int32)]) (fr' := (35, [some (.ref 61), some (.int x1)], [], 0, 0)) rfl (T_Mo_wrong (by omega) hc ?_)
      show sm_W sm_sh X (sm_C sm_sh X sm_P D) me_190 Q (35, [some (.ref 61), some (.int x1)], [], 0, 0) (I3, J, sm_rf t d)
      exact sm_W.forget (L' := [some (.ref 61), none]) ⟨rfl, trivial⟩ (G_Mo_line_35 hD h hQ)
theorem G_Mo_line_13 {X : Nat × (Nat → Int32)} {t d D : Nat} {Q : sm_Q} {I : sm_MI} {J : sm_MJ} {x1 : Int32} {Iz : sm_MI} {Jz : sm_MJ}
    (hD : 7 ≤ D) (h : F_Mo_line_13 x1 I J = some (Iz, Jz)) (hQ : Q (.inl none) (Iz, Jz, sm_rf t d))  : sm_W sm_sh X (sm_C sm_sh X sm_P D) me_190 Q (13, [some (.ref 61), some (.int x1)], [], 0, 0) (I, J, sm_rf t d) := by
  unfold F_Mo_line_13 at h
  refine sm_W.run (sm_C_mono D) 3 (G := True) (fr' := (if decide (x1 < (13 : Int32)) = true then 25 else 16, [some (.ref 61), some (.int x1)], [], 0, 0)) (M' := (I, J, sm_rf t d)) rfl trivial (sm_W.iteD h (fun hc h => ?_) (fun hc h => ?_))
  · exact (G_Mo_line_25 hD h hQ)
  · refine sm_W.run (sm_C_mono D) 3 (G := True) (fr' := (if decide ((16 : Int32) < x1) = true then 25 else 19, [some (.ref 61), some (.int x1)], [], 0, 0)) (M' := (I, J, sm_rf t d)) rfl trivial (sm_W.iteD h (fun hc h => ?_) (fun hc h => ?_))
    · exact (G_Mo_line_25 hD h hQ)
    · refine sm_W.run (sm_C_mono D) 4 (G := True) (fr' := (23, [some (.ref 61), some (.int x1)], [.int (x1 - (13 : Int32)), .ref 61], 0, 0)) (M' := (I, J, sm_rf t d)) rfl trivial ?_
      obtain ⟨I1, J2, hc, h⟩ := sd_q2_go h
      refine sm_W.cal (sm_C_mono D) (y := 188) (as := [.ref 61, .int (x1 - (13 : Int32))]) (fr' := (24, [some (.ref 61), some (.int x1)], [], 0, 0)) rfl (T_Mo_readsRow (by omega) hc ?_)
      show sm_W sm_sh X (sm_C sm_sh X sm_P D) me_190 Q (24, [some (.ref 61), some (.int x1)], [], 0, 0) (I1, J2, sm_rf t d)
      refine sm_W.run (sm_C_mono D) 1 (G := True) (fr' := (86, [some (.ref 61), some (.int x1)], [], 0, 0)) (M' := (I1, J2, sm_rf t d)) rfl trivial ?_
      exact sm_W.forget (L' := [some (.ref 61), none]) ⟨rfl, trivial⟩ (G_Mo_line_86 hD h hQ)
theorem G_Mo_line {X : Nat × (Nat → Int32)} {t d D : Nat} {Q : sm_Q} {I : sm_MI} {J : sm_MJ} {Iz : sm_MI} {Jz : sm_MJ}
    (hD : 7 ≤ D) (h : F_Mo_line I J = some (Iz, Jz)) (hQ : Q (.inl none) (Iz, Jz, sm_rf t d))  : sm_W sm_sh X (sm_C sm_sh X sm_P D) me_190 Q (0, [some (.ref 61), none], [], 0, 0) (I, J, sm_rf t d) := by
  unfold F_Mo_line at h
  refine sm_W.run (sm_C_mono D) 1 (G := True) (fr' := (1, [some (.ref 61), none], [.ref 61], 0, 0)) (M' := (I, J, sm_rf t d)) rfl trivial ?_
  obtain ⟨r1, hc, h⟩ := sd_q1_go h
  refine sm_W.cal (sm_C_mono D) (y := 170) (as := [.ref 61]) (fr' := (2, [some (.ref 61), none], [], 0, 0)) rfl (T_Mo_knownWord (by omega) hc ?_)
  show sm_W sm_sh X (sm_C sm_sh X sm_P D) me_190 Q (2, [some (.ref 61), none], [.int r1], 0, 0) (I, J, sm_rf t d)
  refine sm_W.run (sm_C_mono D) 4 (G := True) (fr' := (if decide (r1 < (10 : Int32)) = true then 13 else 6, [some (.ref 61), some (.int r1)], [], 0, 0)) (M' := (I, J, sm_rf t d)) rfl trivial (sm_W.iteD h (fun hc h => ?_) (fun hc h => ?_))
  · exact (G_Mo_line_13 hD h hQ)
  · refine sm_W.run (sm_C_mono D) 3 (G := True) (fr' := (if decide ((12 : Int32) < r1) = true then 13 else 9, [some (.ref 61), some (.int r1)], [], 0, 0)) (M' := (I, J, sm_rf t d)) rfl trivial (sm_W.iteD h (fun hc h => ?_) (fun hc h => ?_))
    · exact (G_Mo_line_13 hD h hQ)
    · refine sm_W.run (sm_C_mono D) 2 (G := True) (fr' := (11, [some (.ref 61), some (.int r1)], [.int r1, .ref 61], 0, 0)) (M' := (I, J, sm_rf t d)) rfl trivial ?_
      obtain ⟨I2, J3, hc, h⟩ := sd_q2_go h
      refine sm_W.cal (sm_C_mono D) (y := 187) (as := [.ref 61, .int r1]) (fr' := (12, [some (.ref 61), some (.int r1)], [], 0, 0)) rfl (T_Mo_readsSinger (by omega) hc ?_)
      show sm_W sm_sh X (sm_C sm_sh X sm_P D) me_190 Q (12, [some (.ref 61), some (.int r1)], [], 0, 0) (I2, J3, sm_rf t d)
      refine sm_W.run (sm_C_mono D) 1 (G := True) (fr' := (86, [some (.ref 61), some (.int r1)], [], 0, 0)) (M' := (I2, J3, sm_rf t d)) rfl trivial ?_
      exact sm_W.forget (L' := [some (.ref 61), none]) ⟨rfl, trivial⟩ (G_Mo_line_86 hD h hQ)
theorem T_Mo_line {X : Nat × (Nat → Int32)} {t d D : Nat} {Q : sm_Q} {I : sm_MI} {J : sm_MJ} {Iz : sm_MI} {Jz : sm_MJ}
    (hD : 8 ≤ D) (h : F_Mo_line I J = some (Iz, Jz)) (hQ : Q (.inl none) (Iz, Jz, sm_rf t d)) : sm_C sm_sh X sm_P D 190 [.ref 61] (I, J, sm_rf t d) Q := by
  cases D with
  | zero => omega
  | succ D => exact sm_C.of (me := me_190) (L := [some (.ref 61), none]) rfl rfl rfl (sm_W.forget (L' := [some (.ref 61), none]) ⟨rfl, trivial⟩ (G_Mo_line (by omega) h hQ))
-- 191 Mo_valley
noncomputable def F_Mo_valley_174B (k174 : Int32 → sm_MI → sm_MJ → Option (Int32 × sm_MI × sm_MJ)) (x2 : Int32) (I : sm_MI) (J : sm_MJ) : Option (Int32 × sm_MI × sm_MJ) :=
  if (16 : Int32) ≤ x2 then
    sd_lt (sd_up I 61 50 (0 : Int32)) fun I1 =>
    sd_lt (sd_up I1 61 53 (0 : Int32)) fun I2 =>
    sd_lt (sd_up I2 61 57 (0 : Int32)) fun I3 =>
    some ((0 : Int32), I3, J)
  else
    sd_gu (sm_in x2 16 = true) <|
    sd_lt (sd_up I 86 (Int32.toNatClampNeg x2) (0 : Int32)) fun I5 =>
    k174 (x2 + (1 : Int32)) I5 J
noncomputable def F_Mo_valley_174  (n : Nat) : Int32 → sm_MI → sm_MJ → Option (Int32 × sm_MI × sm_MJ) :=
  sd_fix (fun k x2 I J => F_Mo_valley_174B k x2 I J) (fun _ _ _ => none) n
noncomputable def F_Mo_valley_111 (s1 : Int32) (I : sm_MI) (J : sm_MJ) : Option (Int32 × sm_MI × sm_MJ) :=
  sd_lt (sd_up I 61 3 s1) fun I1 =>
  sd_q1 (F_Mo_copies 74 62 I1) fun I2 =>
  sd_q1 (F_Mo_copies 75 63 I2) fun I3 =>
  sd_q1 (F_Mo_copies 76 64 I3) fun I4 =>
  sd_q1 (F_Mo_copies 77 65 I4) fun I5 =>
  sd_q1 (F_Mo_copies 78 66 I5) fun I6 =>
  sd_q1 (F_Mo_copies 79 67 I6) fun I7 =>
  sd_q1 (F_Mo_copies 80 68 I7) fun I8 =>
  sd_q1 (F_Mo_copies 81 69 I8) fun I9 =>
  sd_q1 (F_Mo_copies 82 70 I9) fun I10 =>
  sd_q1 (F_Mo_copies 83 71 I10) fun I11 =>
  F_Mo_valley_174 sd_fu (0 : Int32) I11 J
noncomputable def F_Mo_valley_80 (I : sm_MI) (J : sm_MJ) : Option (Int32 × sm_MI × sm_MJ) :=
  sd_q1 (F_Mo_isGood I) fun r1 =>
  if ¬ r1 = 0 then
    sd_lt (sd_up I 61 1 (I 61 27)) fun I2 =>
    sd_lt (sd_up I2 61 2 (I2 61 28)) fun I3 =>
    if ¬ (I3 61 29) = (-1 : Int32) then
      F_Mo_valley_111 (I3 61 29) I3 J
    else
      F_Mo_valley_111 (4 : Int32) I3 J
  else
    sd_gu (sm_in (0 : Int32) 3 = true) <|
    sd_gu (sm_in (0 : Int32) 3 = true) <|
    sd_lt (sd_up I 73 0 ((I 73 0) + (1 : Int32))) fun I6 =>
    some ((I6 61 16), I6, J)
noncomputable def F_Mo_valley_71B (k71 : sm_MI → sm_MJ → Option (Int32 × sm_MI × sm_MJ)) (I : sm_MI) (J : sm_MJ) : Option (Int32 × sm_MI × sm_MJ) :=
  sd_q1 (F_Mo_isGood I) fun r1 =>
  if r1 = 0 then
    F_Mo_valley_80 I J
  else
    if (I 61 21) = 0 then
      F_Mo_valley_80 I J
    else
      sd_q2 (F_Mo_line I J) fun I2 J3 =>
      k71 I2 J3
noncomputable def F_Mo_valley_71  (n : Nat) : sm_MI → sm_MJ → Option (Int32 × sm_MI × sm_MJ) :=
  sd_fix (fun k I J => F_Mo_valley_71B k I J) (fun _ _ => none) n
noncomputable def F_Mo_valley_59B (k59 : Int32 → sm_MI → sm_MJ → Option (Int32 × sm_MI × sm_MJ)) (x2 : Int32) (I : sm_MI) (J : sm_MJ) : Option (Int32 × sm_MI × sm_MJ) :=
  if (4 : Int32) ≤ x2 then
    sd_q2 (F_Mo_goes I J) fun I1 J2 =>
    F_Mo_valley_71 sd_fu I1 J2
  else
    sd_gu (sm_in x2 4 = true) <|
    sd_lt (sd_up I 82 (Int32.toNatClampNeg x2) (-1 : Int32)) fun I4 =>
    k59 (x2 + (1 : Int32)) I4 J
noncomputable def F_Mo_valley_59  (n : Nat) : Int32 → sm_MI → sm_MJ → Option (Int32 × sm_MI × sm_MJ) :=
  sd_fix (fun k x2 I J => F_Mo_valley_59B k x2 I J) (fun _ _ _ => none) n
noncomputable def F_Mo_valley_47B (k47 : Int32 → sm_MI → sm_MJ → Option (Int32 × sm_MI × sm_MJ)) (x2 : Int32) (I : sm_MI) (J : sm_MJ) : Option (Int32 × sm_MI × sm_MJ) :=
  if (20 : Int32) ≤ x2 then
    F_Mo_valley_59 sd_fu (0 : Int32) I J
  else
    sd_gu (sm_in x2 20 = true) <|
    sd_lt (sd_up I 79 (Int32.toNatClampNeg x2) (0 : Int32)) fun I2 =>
    k47 (x2 + (1 : Int32)) I2 J
noncomputable def F_Mo_valley_47  (n : Nat) : Int32 → sm_MI → sm_MJ → Option (Int32 × sm_MI × sm_MJ) :=
  sd_fix (fun k x2 I J => F_Mo_valley_47B k x2 I J) (fun _ _ _ => none) n
noncomputable def F_Mo_valley_13 (x1 : Int32) (s1 : Int32) (I : sm_MI) (J : sm_MJ) : Option (Int32 × sm_MI × sm_MJ) :=
  sd_q2 (F_Mo_right s1 (1 : Int32) I) fun r1 I2 =>
  if ¬ r1 = 0 then
    sd_lt (sd_up I2 61 15 (0 : Int32)) fun I3 =>
    sd_lt (sd_up I3 61 17 (-1 : Int32)) fun I4 =>
    sd_lt (sd_up I4 61 16 (0 : Int32)) fun I5 =>
    sd_lt (sd_up I5 61 19 x1) fun I6 =>
    sd_lt (sd_up I6 61 20 (0 : Int32)) fun I7 =>
    sd_lt (sd_up I7 61 27 (0 : Int32)) fun I8 =>
    sd_lt (sd_up I8 61 28 (0 : Int32)) fun I9 =>
    sd_lt (sd_up I9 61 29 (-1 : Int32)) fun I10 =>
    sd_lt (sd_up I10 61 30 (0 : Int32)) fun I11 =>
    F_Mo_valley_47 sd_fu (0 : Int32) I11 J
  else
    some ((0 : Int32), I2, J)
noncomputable def F_Mo_valley (x1 : Int32) (I : sm_MI) (J : sm_MJ) : Option (Int32 × sm_MI × sm_MJ) :=
  sd_lt (sd_up I 61 0 (0 : Int32)) fun I1 =>
  if x1 < 0 then
    F_Mo_valley_13 x1 (0 : Int32) I1 J
  else
    if (I1 61 15) < x1 then
      F_Mo_valley_13 x1 (0 : Int32) I1 J
    else
      F_Mo_valley_13 x1 (1 : Int32) I1 J
theorem G_Mo_valley_174B {X : Nat × (Nat → Int32)} {t d D : Nat} {Q : sm_Q} {I : sm_MI} {J : sm_MJ} {k174 : Int32 → sm_MI → sm_MJ → Option (Int32 × sm_MI × sm_MJ)} {x2 : Int32} {rz : Int32} {Iz : sm_MI} {Jz : sm_MJ}
    (hD : 8 ≤ D) (h : F_Mo_valley_174B k174 x2 I J = some (rz, Iz, Jz)) (hQ : Q (.inl (some (.int rz))) (Iz, Jz, sm_rf t d)) (hk174 : ∀ (x2 : Int32) (I : sm_MI) (J : sm_MJ), k174 x2 I J = some (rz, Iz, Jz) → sm_W sm_sh X (sm_C sm_sh X sm_P D) me_191 Q (174, [some (.ref 61), none, some (.int x2)], [], 0, 0) (I, J, sm_rf t d)) : sm_W sm_sh X (sm_C sm_sh X sm_P D) me_191 Q (174, [some (.ref 61), none, some (.int x2)], [], 0, 0) (I, J, sm_rf t d) := by
  unfold F_Mo_valley_174B at h
  refine sm_W.run (sm_C_mono D) 3 (G := True) (fr' := (if decide ((16 : Int32) ≤ x2) = true then 184 else 177, [some (.ref 61), none, some (.int x2)], [], 0, 0)) (M' := (I, J, sm_rf t d)) rfl trivial (sm_W.iteD h (fun hc h => ?_) (fun hc h => ?_))
  · refine sm_W.runL (sm_C_mono D) 3 (G := True) (e := (sd_up I 61 50 (0 : Int32))) (fr' := fun _ => (187, [some (.ref 61), none, some (.int x2)], [], 0, 0)) (M' := fun I1 => (I1, J, sm_rf t d)) rfl h trivial (fun I1 h => ?_)
    refine sm_W.runL (sm_C_mono D) 3 (G := True) (e := (sd_up I1 61 53 (0 : Int32))) (fr' := fun _ => (190, [some (.ref 61), none, some (.int x2)], [], 0, 0)) (M' := fun I2 => (I2, J, sm_rf t d)) rfl h trivial (fun I2 h => ?_)
    refine sm_W.runL (sm_C_mono D) 3 (G := True) (e := (sd_up I2 61 57 (0 : Int32))) (fr' := fun _ => (193, [some (.ref 61), none, some (.int x2)], [], 0, 0)) (M' := fun I3 => (I3, J, sm_rf t d)) rfl h trivial (fun I3 h => ?_)
    refine sm_W.run (sm_C_mono D) 1 (G := True) (fr' := (194, [some (.ref 61), none, some (.int x2)], [.int (0 : Int32)], 0, 0)) (M' := (I3, J, sm_rf t d)) rfl trivial ?_
    cases h
    exact sm_W.ret (sm_C_mono D) rfl hQ
  · obtain ⟨g4, h⟩ := sd_gu_go h
    refine sm_W.runL (sm_C_mono D) 5 (G := sm_in x2 16 = true ∧ True) (e := (sd_up I 86 (Int32.toNatClampNeg x2) (0 : Int32))) (fr' := fun _ => (182, [some (.ref 61), none, some (.int x2)], [], 0, 0)) (M' := fun I5 => (I5, J, sm_rf t d)) rfl h ⟨g4, trivial⟩ (fun I5 h => ?_)
    refine sm_W.run (sm_C_mono D) 2 (G := True) (fr' := (174, [some (.ref 61), none, some (.int (x2 + (1 : Int32)))], [], 0, 0)) (M' := (I5, J, sm_rf t d)) rfl trivial ?_
    exact (hk174 _ _ _ h)
theorem G_Mo_valley_174 {X : Nat × (Nat → Int32)} {t d D : Nat} {Q : sm_Q} {rz : Int32} {Iz : sm_MI} {Jz : sm_MJ}
    (hD : 8 ≤ D) (hQ : Q (.inl (some (.int rz))) (Iz, Jz, sm_rf t d))  : ∀ (n : Nat) (x2 : Int32) (I : sm_MI) (J : sm_MJ), F_Mo_valley_174 n x2 I J = some (rz, Iz, Jz) → sm_W sm_sh X (sm_C sm_sh X sm_P D) me_191 Q (174, [some (.ref 61), none, some (.int x2)], [], 0, 0) (I, J, sm_rf t d) := by
  intro n
  induction n with
  | zero => intro x2 I J h; cases (show (none : Option (Int32 × sm_MI × sm_MJ)) = some (rz, Iz, Jz) from h)
  | succ n ih => intro x2 I J h; exact G_Mo_valley_174B hD (show F_Mo_valley_174B (F_Mo_valley_174 n) x2 I J = some (rz, Iz, Jz) from h) hQ  ih
theorem G_Mo_valley_111 {X : Nat × (Nat → Int32)} {t d D : Nat} {Q : sm_Q} {I : sm_MI} {J : sm_MJ} {s1 : Int32} {rz : Int32} {Iz : sm_MI} {Jz : sm_MJ}
    (hD : 8 ≤ D) (h : F_Mo_valley_111 s1 I J = some (rz, Iz, Jz)) (hQ : Q (.inl (some (.int rz))) (Iz, Jz, sm_rf t d))  : sm_W sm_sh X (sm_C sm_sh X sm_P D) me_191 Q (111, [some (.ref 61), none, none], [.int s1, .ref 61], 0, 0) (I, J, sm_rf t d) := by
  unfold F_Mo_valley_111 at h
  refine sm_W.runL (sm_C_mono D) 1 (G := True) (e := (sd_up I 61 3 s1)) (fr' := fun _ => (112, [some (.ref 61), none, none], [], 0, 0)) (M' := fun I1 => (I1, J, sm_rf t d)) rfl h trivial (fun I1 h => ?_)
  refine sm_W.run (sm_C_mono D) 5 (G := True) (fr' := (117, [some (.ref 61), none, none], [.ref 62, .ref 74, .ref 61], 0, 0)) (M' := (I1, J, sm_rf t d)) rfl trivial ?_
  obtain ⟨I2, hc, h⟩ := sd_q1_go h
  refine sm_W.cal (sm_C_mono D) (y := 160) (as := [.ref 61, .ref 74, .ref 62]) (fr' := (118, [some (.ref 61), none, none], [], 0, 0)) rfl (T_Mo_copies (by omega) (by decide) hc ?_)
  show sm_W sm_sh X (sm_C sm_sh X sm_P D) me_191 Q (118, [some (.ref 61), none, none], [], 0, 0) (I2, J, sm_rf t d)
  refine sm_W.run (sm_C_mono D) 5 (G := True) (fr' := (123, [some (.ref 61), none, none], [.ref 63, .ref 75, .ref 61], 0, 0)) (M' := (I2, J, sm_rf t d)) rfl trivial ?_
  obtain ⟨I3, hc, h⟩ := sd_q1_go h
  refine sm_W.cal (sm_C_mono D) (y := 160) (as := [.ref 61, .ref 75, .ref 63]) (fr' := (124, [some (.ref 61), none, none], [], 0, 0)) rfl (T_Mo_copies (by omega) (by decide) hc ?_)
  show sm_W sm_sh X (sm_C sm_sh X sm_P D) me_191 Q (124, [some (.ref 61), none, none], [], 0, 0) (I3, J, sm_rf t d)
  refine sm_W.run (sm_C_mono D) 5 (G := True) (fr' := (129, [some (.ref 61), none, none], [.ref 64, .ref 76, .ref 61], 0, 0)) (M' := (I3, J, sm_rf t d)) rfl trivial ?_
  obtain ⟨I4, hc, h⟩ := sd_q1_go h
  refine sm_W.cal (sm_C_mono D) (y := 160) (as := [.ref 61, .ref 76, .ref 64]) (fr' := (130, [some (.ref 61), none, none], [], 0, 0)) rfl (T_Mo_copies (by omega) (by decide) hc ?_)
  show sm_W sm_sh X (sm_C sm_sh X sm_P D) me_191 Q (130, [some (.ref 61), none, none], [], 0, 0) (I4, J, sm_rf t d)
  refine sm_W.run (sm_C_mono D) 5 (G := True) (fr' := (135, [some (.ref 61), none, none], [.ref 65, .ref 77, .ref 61], 0, 0)) (M' := (I4, J, sm_rf t d)) rfl trivial ?_
  obtain ⟨I5, hc, h⟩ := sd_q1_go h
  refine sm_W.cal (sm_C_mono D) (y := 160) (as := [.ref 61, .ref 77, .ref 65]) (fr' := (136, [some (.ref 61), none, none], [], 0, 0)) rfl (T_Mo_copies (by omega) (by decide) hc ?_)
  show sm_W sm_sh X (sm_C sm_sh X sm_P D) me_191 Q (136, [some (.ref 61), none, none], [], 0, 0) (I5, J, sm_rf t d)
  refine sm_W.run (sm_C_mono D) 5 (G := True) (fr' := (141, [some (.ref 61), none, none], [.ref 66, .ref 78, .ref 61], 0, 0)) (M' := (I5, J, sm_rf t d)) rfl trivial ?_
  obtain ⟨I6, hc, h⟩ := sd_q1_go h
  refine sm_W.cal (sm_C_mono D) (y := 160) (as := [.ref 61, .ref 78, .ref 66]) (fr' := (142, [some (.ref 61), none, none], [], 0, 0)) rfl (T_Mo_copies (by omega) (by decide) hc ?_)
  show sm_W sm_sh X (sm_C sm_sh X sm_P D) me_191 Q (142, [some (.ref 61), none, none], [], 0, 0) (I6, J, sm_rf t d)
  refine sm_W.run (sm_C_mono D) 5 (G := True) (fr' := (147, [some (.ref 61), none, none], [.ref 67, .ref 79, .ref 61], 0, 0)) (M' := (I6, J, sm_rf t d)) rfl trivial ?_
  obtain ⟨I7, hc, h⟩ := sd_q1_go h
  refine sm_W.cal (sm_C_mono D) (y := 160) (as := [.ref 61, .ref 79, .ref 67]) (fr' := (148, [some (.ref 61), none, none], [], 0, 0)) rfl (T_Mo_copies (by omega) (by decide) hc ?_)
  show sm_W sm_sh X (sm_C sm_sh X sm_P D) me_191 Q (148, [some (.ref 61), none, none], [], 0, 0) (I7, J, sm_rf t d)
  refine sm_W.run (sm_C_mono D) 5 (G := True) (fr' := (153, [some (.ref 61), none, none], [.ref 68, .ref 80, .ref 61], 0, 0)) (M' := (I7, J, sm_rf t d)) rfl trivial ?_
  obtain ⟨I8, hc, h⟩ := sd_q1_go h
  refine sm_W.cal (sm_C_mono D) (y := 160) (as := [.ref 61, .ref 80, .ref 68]) (fr' := (154, [some (.ref 61), none, none], [], 0, 0)) rfl (T_Mo_copies (by omega) (by decide) hc ?_)
  show sm_W sm_sh X (sm_C sm_sh X sm_P D) me_191 Q (154, [some (.ref 61), none, none], [], 0, 0) (I8, J, sm_rf t d)
  refine sm_W.run (sm_C_mono D) 5 (G := True) (fr' := (159, [some (.ref 61), none, none], [.ref 69, .ref 81, .ref 61], 0, 0)) (M' := (I8, J, sm_rf t d)) rfl trivial ?_
  obtain ⟨I9, hc, h⟩ := sd_q1_go h
  refine sm_W.cal (sm_C_mono D) (y := 160) (as := [.ref 61, .ref 81, .ref 69]) (fr' := (160, [some (.ref 61), none, none], [], 0, 0)) rfl (T_Mo_copies (by omega) (by decide) hc ?_)
  show sm_W sm_sh X (sm_C sm_sh X sm_P D) me_191 Q (160, [some (.ref 61), none, none], [], 0, 0) (I9, J, sm_rf t d)
  refine sm_W.run (sm_C_mono D) 5 (G := True) (fr' := (165, [some (.ref 61), none, none], [.ref 70, .ref 82, .ref 61], 0, 0)) (M' := (I9, J, sm_rf t d)) rfl trivial ?_
  obtain ⟨I10, hc, h⟩ := sd_q1_go h
  refine sm_W.cal (sm_C_mono D) (y := 160) (as := [.ref 61, .ref 82, .ref 70]) (fr' := (166, [some (.ref 61), none, none], [], 0, 0)) rfl (T_Mo_copies (by omega) (by decide) hc ?_)
  show sm_W sm_sh X (sm_C sm_sh X sm_P D) me_191 Q (166, [some (.ref 61), none, none], [], 0, 0) (I10, J, sm_rf t d)
  refine sm_W.run (sm_C_mono D) 5 (G := True) (fr' := (171, [some (.ref 61), none, none], [.ref 71, .ref 83, .ref 61], 0, 0)) (M' := (I10, J, sm_rf t d)) rfl trivial ?_
  obtain ⟨I11, hc, h⟩ := sd_q1_go h
  refine sm_W.cal (sm_C_mono D) (y := 160) (as := [.ref 61, .ref 83, .ref 71]) (fr' := (172, [some (.ref 61), none, none], [], 0, 0)) rfl (T_Mo_copies (by omega) (by decide) hc ?_)
  show sm_W sm_sh X (sm_C sm_sh X sm_P D) me_191 Q (172, [some (.ref 61), none, none], [], 0, 0) (I11, J, sm_rf t d)
  refine sm_W.run (sm_C_mono D) 2 (G := True) (fr' := (174, [some (.ref 61), none, some (.int (0 : Int32))], [], 0, 0)) (M' := (I11, J, sm_rf t d)) rfl trivial ?_
  exact (G_Mo_valley_174 hD hQ sd_fu _ _ _ h)
theorem G_Mo_valley_80 {X : Nat × (Nat → Int32)} {t d D : Nat} {Q : sm_Q} {I : sm_MI} {J : sm_MJ} {rz : Int32} {Iz : sm_MI} {Jz : sm_MJ}
    (hD : 8 ≤ D) (h : F_Mo_valley_80 I J = some (rz, Iz, Jz)) (hQ : Q (.inl (some (.int rz))) (Iz, Jz, sm_rf t d))  : sm_W sm_sh X (sm_C sm_sh X sm_P D) me_191 Q (80, [some (.ref 61), none, none], [], 0, 0) (I, J, sm_rf t d) := by
  unfold F_Mo_valley_80 at h
  refine sm_W.run (sm_C_mono D) 1 (G := True) (fr' := (81, [some (.ref 61), none, none], [.ref 61], 0, 0)) (M' := (I, J, sm_rf t d)) rfl trivial ?_
  obtain ⟨r1, hc, h⟩ := sd_q1_go h
  refine sm_W.cal (sm_C_mono D) (y := 172) (as := [.ref 61]) (fr' := (82, [some (.ref 61), none, none], [], 0, 0)) rfl (T_Mo_isGood (by omega) hc ?_)
  show sm_W sm_sh X (sm_C sm_sh X sm_P D) me_191 Q (82, [some (.ref 61), none, none], [.int r1], 0, 0) (I, J, sm_rf t d)
  refine sm_W.run (sm_C_mono D) 1 (G := True) (fr' := (if decide (¬ r1 = 0) = true then 94 else 83, [some (.ref 61), none, none], [], 0, 0)) (M' := (I, J, sm_rf t d)) rfl trivial (sm_W.iteD h (fun hc h => ?_) (fun hc h => ?_))
  · refine sm_W.runL (sm_C_mono D) 4 (G := True) (e := (sd_up I 61 1 (I 61 27))) (fr' := fun _ => (98, [some (.ref 61), none, none], [], 0, 0)) (M' := fun I2 => (I2, J, sm_rf t d)) rfl h trivial (fun I2 h => ?_)
    refine sm_W.runL (sm_C_mono D) 4 (G := True) (e := (sd_up I2 61 2 (I2 61 28))) (fr' := fun _ => (102, [some (.ref 61), none, none], [], 0, 0)) (M' := fun I3 => (I3, J, sm_rf t d)) rfl h trivial (fun I3 h => ?_)
    refine sm_W.run (sm_C_mono D) 5 (G := True) (fr' := (if decide (¬ (I3 61 29) = (-1 : Int32)) = true then 109 else 107, [some (.ref 61), none, none], [.ref 61], 0, 0)) (M' := (I3, J, sm_rf t d)) rfl trivial (sm_W.iteD h (fun hc h => ?_) (fun hc h => ?_))
    · refine sm_W.run (sm_C_mono D) 2 (G := True) (fr' := (111, [some (.ref 61), none, none], [.int (I3 61 29), .ref 61], 0, 0)) (M' := (I3, J, sm_rf t d)) rfl trivial ?_
      exact (G_Mo_valley_111 hD h hQ)
    · refine sm_W.run (sm_C_mono D) 2 (G := True) (fr' := (111, [some (.ref 61), none, none], [.int (4 : Int32), .ref 61], 0, 0)) (M' := (I3, J, sm_rf t d)) rfl trivial ?_
      exact (G_Mo_valley_111 hD h hQ)
  · obtain ⟨g4, h⟩ := sd_gu_go h
    obtain ⟨g5, h⟩ := sd_gu_go h
    refine sm_W.runL (sm_C_mono D) 8 (G := sm_in (0 : Int32) 3 = true ∧ sm_in (0 : Int32) 3 = true ∧ True) (e := (sd_up I 73 0 ((I 73 0) + (1 : Int32)))) (fr' := fun _ => (91, [some (.ref 61), none, none], [], 0, 0)) (M' := fun I6 => (I6, J, sm_rf t d)) rfl h ⟨g4, g5, trivial⟩ (fun I6 h => ?_)
    refine sm_W.run (sm_C_mono D) 2 (G := True) (fr' := (93, [some (.ref 61), none, none], [.int (I6 61 16)], 0, 0)) (M' := (I6, J, sm_rf t d)) rfl trivial ?_
    cases h
    exact sm_W.ret (sm_C_mono D) rfl hQ
theorem G_Mo_valley_71B {X : Nat × (Nat → Int32)} {t d D : Nat} {Q : sm_Q} {I : sm_MI} {J : sm_MJ} {k71 : sm_MI → sm_MJ → Option (Int32 × sm_MI × sm_MJ)} {rz : Int32} {Iz : sm_MI} {Jz : sm_MJ}
    (hD : 8 ≤ D) (h : F_Mo_valley_71B k71 I J = some (rz, Iz, Jz)) (hQ : Q (.inl (some (.int rz))) (Iz, Jz, sm_rf t d)) (hk71 : ∀ (I : sm_MI) (J : sm_MJ), k71 I J = some (rz, Iz, Jz) → sm_W sm_sh X (sm_C sm_sh X sm_P D) me_191 Q (71, [some (.ref 61), none, none], [], 0, 0) (I, J, sm_rf t d)) : sm_W sm_sh X (sm_C sm_sh X sm_P D) me_191 Q (71, [some (.ref 61), none, none], [], 0, 0) (I, J, sm_rf t d) := by
  unfold F_Mo_valley_71B at h
  refine sm_W.run (sm_C_mono D) 1 (G := True) (fr' := (72, [some (.ref 61), none, none], [.ref 61], 0, 0)) (M' := (I, J, sm_rf t d)) rfl trivial ?_
  obtain ⟨r1, hc, h⟩ := sd_q1_go h
  refine sm_W.cal (sm_C_mono D) (y := 172) (as := [.ref 61]) (fr' := (73, [some (.ref 61), none, none], [], 0, 0)) rfl (T_Mo_isGood (by omega) hc ?_)
  show sm_W sm_sh X (sm_C sm_sh X sm_P D) me_191 Q (73, [some (.ref 61), none, none], [.int r1], 0, 0) (I, J, sm_rf t d)
  refine sm_W.run (sm_C_mono D) 1 (G := True) (fr' := (if decide (r1 = 0) = true then 80 else 74, [some (.ref 61), none, none], [], 0, 0)) (M' := (I, J, sm_rf t d)) rfl trivial (sm_W.iteD h (fun hc h => ?_) (fun hc h => ?_))
  · exact (G_Mo_valley_80 hD h hQ)
  · refine sm_W.run (sm_C_mono D) 3 (G := True) (fr' := (if decide ((I 61 21) = 0) = true then 80 else 77, [some (.ref 61), none, none], [], 0, 0)) (M' := (I, J, sm_rf t d)) rfl trivial (sm_W.iteD h (fun hc h => ?_) (fun hc h => ?_))
    · exact (G_Mo_valley_80 hD h hQ)
    · refine sm_W.run (sm_C_mono D) 1 (G := True) (fr' := (78, [some (.ref 61), none, none], [.ref 61], 0, 0)) (M' := (I, J, sm_rf t d)) rfl trivial ?_
      obtain ⟨I2, J3, hc, h⟩ := sd_q2_go h
      refine sm_W.cal (sm_C_mono D) (y := 190) (as := [.ref 61]) (fr' := (79, [some (.ref 61), none, none], [], 0, 0)) rfl (T_Mo_line (by omega) hc ?_)
      show sm_W sm_sh X (sm_C sm_sh X sm_P D) me_191 Q (79, [some (.ref 61), none, none], [], 0, 0) (I2, J3, sm_rf t d)
      refine sm_W.run (sm_C_mono D) 1 (G := True) (fr' := (71, [some (.ref 61), none, none], [], 0, 0)) (M' := (I2, J3, sm_rf t d)) rfl trivial ?_
      exact (hk71 _ _ h)
theorem G_Mo_valley_71 {X : Nat × (Nat → Int32)} {t d D : Nat} {Q : sm_Q} {rz : Int32} {Iz : sm_MI} {Jz : sm_MJ}
    (hD : 8 ≤ D) (hQ : Q (.inl (some (.int rz))) (Iz, Jz, sm_rf t d))  : ∀ (n : Nat) (I : sm_MI) (J : sm_MJ), F_Mo_valley_71 n I J = some (rz, Iz, Jz) → sm_W sm_sh X (sm_C sm_sh X sm_P D) me_191 Q (71, [some (.ref 61), none, none], [], 0, 0) (I, J, sm_rf t d) := by
  intro n
  induction n with
  | zero => intro I J h; cases (show (none : Option (Int32 × sm_MI × sm_MJ)) = some (rz, Iz, Jz) from h)
  | succ n ih => intro I J h; exact G_Mo_valley_71B hD (show F_Mo_valley_71B (F_Mo_valley_71 n) I J = some (rz, Iz, Jz) from h) hQ  ih
theorem G_Mo_valley_59B {X : Nat × (Nat → Int32)} {t d D : Nat} {Q : sm_Q} {I : sm_MI} {J : sm_MJ} {k59 : Int32 → sm_MI → sm_MJ → Option (Int32 × sm_MI × sm_MJ)} {x2 : Int32} {rz : Int32} {Iz : sm_MI} {Jz : sm_MJ}
    (hD : 8 ≤ D) (h : F_Mo_valley_59B k59 x2 I J = some (rz, Iz, Jz)) (hQ : Q (.inl (some (.int rz))) (Iz, Jz, sm_rf t d)) (hk59 : ∀ (x2 : Int32) (I : sm_MI) (J : sm_MJ), k59 x2 I J = some (rz, Iz, Jz) → sm_W sm_sh X (sm_C sm_sh X sm_P D) me_191 Q (59, [some (.ref 61), none, some (.int x2)], [], 0, 0) (I, J, sm_rf t d)) : sm_W sm_sh X (sm_C sm_sh X sm_P D) me_191 Q (59, [some (.ref 61), none, some (.int x2)], [], 0, 0) (I, J, sm_rf t d) := by
  unfold F_Mo_valley_59B at h
  refine sm_W.run (sm_C_mono D) 3 (G := True) (fr' := (if decide ((4 : Int32) ≤ x2) = true then 69 else 62, [some (.ref 61), none, some (.int x2)], [], 0, 0)) (M' := (I, J, sm_rf t d)) rfl trivial (sm_W.iteD h (fun hc h => ?_) (fun hc h => ?_))
  · refine sm_W.run (sm_C_mono D) 1 (G := True) (fr' := (70, [some (.ref 61), none, some (.int x2)], [.ref 61], 0, 0)) (M' := (I, J, sm_rf t d)) rfl trivial ?_
    obtain ⟨I1, J2, hc, h⟩ := sd_q2_go h
    refine sm_W.cal (sm_C_mono D) (y := 167) (as := [.ref 61]) (fr' := (71, [some (.ref 61), none, some (.int x2)], [], 0, 0)) rfl (T_Mo_goes (by omega) hc ?_)
    show sm_W sm_sh X (sm_C sm_sh X sm_P D) me_191 Q (71, [some (.ref 61), none, some (.int x2)], [], 0, 0) (I1, J2, sm_rf t d)
    exact sm_W.forget (L' := [some (.ref 61), none, none]) ⟨rfl, trivial⟩ (G_Mo_valley_71 hD hQ sd_fu _ _ h)
  · obtain ⟨g3, h⟩ := sd_gu_go h
    refine sm_W.runL (sm_C_mono D) 5 (G := sm_in x2 4 = true ∧ True) (e := (sd_up I 82 (Int32.toNatClampNeg x2) (-1 : Int32))) (fr' := fun _ => (67, [some (.ref 61), none, some (.int x2)], [], 0, 0)) (M' := fun I4 => (I4, J, sm_rf t d)) rfl h ⟨g3, trivial⟩ (fun I4 h => ?_)
    refine sm_W.run (sm_C_mono D) 2 (G := True) (fr' := (59, [some (.ref 61), none, some (.int (x2 + (1 : Int32)))], [], 0, 0)) (M' := (I4, J, sm_rf t d)) rfl trivial ?_
    exact (hk59 _ _ _ h)
theorem G_Mo_valley_59 {X : Nat × (Nat → Int32)} {t d D : Nat} {Q : sm_Q} {rz : Int32} {Iz : sm_MI} {Jz : sm_MJ}
    (hD : 8 ≤ D) (hQ : Q (.inl (some (.int rz))) (Iz, Jz, sm_rf t d))  : ∀ (n : Nat) (x2 : Int32) (I : sm_MI) (J : sm_MJ), F_Mo_valley_59 n x2 I J = some (rz, Iz, Jz) → sm_W sm_sh X (sm_C sm_sh X sm_P D) me_191 Q (59, [some (.ref 61), none, some (.int x2)], [], 0, 0) (I, J, sm_rf t d) := by
  intro n
  induction n with
  | zero => intro x2 I J h; cases (show (none : Option (Int32 × sm_MI × sm_MJ)) = some (rz, Iz, Jz) from h)
  | succ n ih => intro x2 I J h; exact G_Mo_valley_59B hD (show F_Mo_valley_59B (F_Mo_valley_59 n) x2 I J = some (rz, Iz, Jz) from h) hQ  ih
theorem G_Mo_valley_47B {X : Nat × (Nat → Int32)} {t d D : Nat} {Q : sm_Q} {I : sm_MI} {J : sm_MJ} {k47 : Int32 → sm_MI → sm_MJ → Option (Int32 × sm_MI × sm_MJ)} {x2 : Int32} {rz : Int32} {Iz : sm_MI} {Jz : sm_MJ}
    (hD : 8 ≤ D) (h : F_Mo_valley_47B k47 x2 I J = some (rz, Iz, Jz)) (hQ : Q (.inl (some (.int rz))) (Iz, Jz, sm_rf t d)) (hk47 : ∀ (x2 : Int32) (I : sm_MI) (J : sm_MJ), k47 x2 I J = some (rz, Iz, Jz) → sm_W sm_sh X (sm_C sm_sh X sm_P D) me_191 Q (47, [some (.ref 61), none, some (.int x2)], [], 0, 0) (I, J, sm_rf t d)) : sm_W sm_sh X (sm_C sm_sh X sm_P D) me_191 Q (47, [some (.ref 61), none, some (.int x2)], [], 0, 0) (I, J, sm_rf t d) := by
  unfold F_Mo_valley_47B at h
  refine sm_W.run (sm_C_mono D) 3 (G := True) (fr' := (if decide ((20 : Int32) ≤ x2) = true then 57 else 50, [some (.ref 61), none, some (.int x2)], [], 0, 0)) (M' := (I, J, sm_rf t d)) rfl trivial (sm_W.iteD h (fun hc h => ?_) (fun hc h => ?_))
  · refine sm_W.run (sm_C_mono D) 2 (G := True) (fr' := (59, [some (.ref 61), none, some (.int (0 : Int32))], [], 0, 0)) (M' := (I, J, sm_rf t d)) rfl trivial ?_
    exact (G_Mo_valley_59 hD hQ sd_fu _ _ _ h)
  · obtain ⟨g1, h⟩ := sd_gu_go h
    refine sm_W.runL (sm_C_mono D) 5 (G := sm_in x2 20 = true ∧ True) (e := (sd_up I 79 (Int32.toNatClampNeg x2) (0 : Int32))) (fr' := fun _ => (55, [some (.ref 61), none, some (.int x2)], [], 0, 0)) (M' := fun I2 => (I2, J, sm_rf t d)) rfl h ⟨g1, trivial⟩ (fun I2 h => ?_)
    refine sm_W.run (sm_C_mono D) 2 (G := True) (fr' := (47, [some (.ref 61), none, some (.int (x2 + (1 : Int32)))], [], 0, 0)) (M' := (I2, J, sm_rf t d)) rfl trivial ?_
    exact (hk47 _ _ _ h)
theorem G_Mo_valley_47 {X : Nat × (Nat → Int32)} {t d D : Nat} {Q : sm_Q} {rz : Int32} {Iz : sm_MI} {Jz : sm_MJ}
    (hD : 8 ≤ D) (hQ : Q (.inl (some (.int rz))) (Iz, Jz, sm_rf t d))  : ∀ (n : Nat) (x2 : Int32) (I : sm_MI) (J : sm_MJ), F_Mo_valley_47 n x2 I J = some (rz, Iz, Jz) → sm_W sm_sh X (sm_C sm_sh X sm_P D) me_191 Q (47, [some (.ref 61), none, some (.int x2)], [], 0, 0) (I, J, sm_rf t d) := by
  intro n
  induction n with
  | zero => intro x2 I J h; cases (show (none : Option (Int32 × sm_MI × sm_MJ)) = some (rz, Iz, Jz) from h)
  | succ n ih => intro x2 I J h; exact G_Mo_valley_47B hD (show F_Mo_valley_47B (F_Mo_valley_47 n) x2 I J = some (rz, Iz, Jz) from h) hQ  ih
theorem G_Mo_valley_13 {X : Nat × (Nat → Int32)} {t d D : Nat} {Q : sm_Q} {I : sm_MI} {J : sm_MJ} {x1 : Int32} {s1 : Int32} {rz : Int32} {Iz : sm_MI} {Jz : sm_MJ}
    (hD : 8 ≤ D) (h : F_Mo_valley_13 x1 s1 I J = some (rz, Iz, Jz)) (hQ : Q (.inl (some (.int rz))) (Iz, Jz, sm_rf t d))  : sm_W sm_sh X (sm_C sm_sh X sm_P D) me_191 Q (13, [some (.ref 61), some (.int x1), none], [.int s1, .ref 61], 0, 0) (I, J, sm_rf t d) := by
  unfold F_Mo_valley_13 at h
  refine sm_W.run (sm_C_mono D) 1 (G := True) (fr' := (14, [some (.ref 61), some (.int x1), none], [.int (1 : Int32), .int s1, .ref 61], 0, 0)) (M' := (I, J, sm_rf t d)) rfl trivial ?_
  obtain ⟨r1, I2, hc, h⟩ := sd_q2_go h
  refine sm_W.cal (sm_C_mono D) (y := 158) (as := [.ref 61, .int s1, .int (1 : Int32)]) (fr' := (15, [some (.ref 61), some (.int x1), none], [], 0, 0)) rfl (T_Mo_right (by omega) hc ?_)
  show sm_W sm_sh X (sm_C sm_sh X sm_P D) me_191 Q (15, [some (.ref 61), some (.int x1), none], [.int r1], 0, 0) (I2, J, sm_rf t d)
  refine sm_W.run (sm_C_mono D) 1 (G := True) (fr' := (if decide (¬ r1 = 0) = true then 18 else 16, [some (.ref 61), some (.int x1), none], [], 0, 0)) (M' := (I2, J, sm_rf t d)) rfl trivial (sm_W.iteD h (fun hc h => ?_) (fun hc h => ?_))
  · refine sm_W.runL (sm_C_mono D) 3 (G := True) (e := (sd_up I2 61 15 (0 : Int32))) (fr' := fun _ => (21, [some (.ref 61), some (.int x1), none], [], 0, 0)) (M' := fun I3 => (I3, J, sm_rf t d)) rfl h trivial (fun I3 h => ?_)
    refine sm_W.runL (sm_C_mono D) 3 (G := True) (e := (sd_up I3 61 17 (-1 : Int32))) (fr' := fun _ => (24, [some (.ref 61), some (.int x1), none], [], 0, 0)) (M' := fun I4 => (I4, J, sm_rf t d)) rfl h trivial (fun I4 h => ?_)
    refine sm_W.runL (sm_C_mono D) 3 (G := True) (e := (sd_up I4 61 16 (0 : Int32))) (fr' := fun _ => (27, [some (.ref 61), some (.int x1), none], [], 0, 0)) (M' := fun I5 => (I5, J, sm_rf t d)) rfl h trivial (fun I5 h => ?_)
    refine sm_W.runL (sm_C_mono D) 3 (G := True) (e := (sd_up I5 61 19 x1)) (fr' := fun _ => (30, [some (.ref 61), some (.int x1), none], [], 0, 0)) (M' := fun I6 => (I6, J, sm_rf t d)) rfl h trivial (fun I6 h => ?_)
    refine sm_W.runL (sm_C_mono D) 3 (G := True) (e := (sd_up I6 61 20 (0 : Int32))) (fr' := fun _ => (33, [some (.ref 61), some (.int x1), none], [], 0, 0)) (M' := fun I7 => (I7, J, sm_rf t d)) rfl h trivial (fun I7 h => ?_)
    refine sm_W.runL (sm_C_mono D) 3 (G := True) (e := (sd_up I7 61 27 (0 : Int32))) (fr' := fun _ => (36, [some (.ref 61), some (.int x1), none], [], 0, 0)) (M' := fun I8 => (I8, J, sm_rf t d)) rfl h trivial (fun I8 h => ?_)
    refine sm_W.runL (sm_C_mono D) 3 (G := True) (e := (sd_up I8 61 28 (0 : Int32))) (fr' := fun _ => (39, [some (.ref 61), some (.int x1), none], [], 0, 0)) (M' := fun I9 => (I9, J, sm_rf t d)) rfl h trivial (fun I9 h => ?_)
    refine sm_W.runL (sm_C_mono D) 3 (G := True) (e := (sd_up I9 61 29 (-1 : Int32))) (fr' := fun _ => (42, [some (.ref 61), some (.int x1), none], [], 0, 0)) (M' := fun I10 => (I10, J, sm_rf t d)) rfl h trivial (fun I10 h => ?_)
    refine sm_W.runL (sm_C_mono D) 3 (G := True) (e := (sd_up I10 61 30 (0 : Int32))) (fr' := fun _ => (45, [some (.ref 61), some (.int x1), none], [], 0, 0)) (M' := fun I11 => (I11, J, sm_rf t d)) rfl h trivial (fun I11 h => ?_)
    refine sm_W.run (sm_C_mono D) 2 (G := True) (fr' := (47, [some (.ref 61), some (.int x1), some (.int (0 : Int32))], [], 0, 0)) (M' := (I11, J, sm_rf t d)) rfl trivial ?_
    exact sm_W.forget (L' := [some (.ref 61), none, some (.int (0 : Int32))]) ⟨rfl, ⟨rfl, trivial⟩⟩ (G_Mo_valley_47 hD hQ sd_fu _ _ _ h)
  · refine sm_W.run (sm_C_mono D) 1 (G := True) (fr' := (17, [some (.ref 61), some (.int x1), none], [.int (0 : Int32)], 0, 0)) (M' := (I2, J, sm_rf t d)) rfl trivial ?_
    cases h
    exact sm_W.ret (sm_C_mono D) rfl hQ
theorem G_Mo_valley {X : Nat × (Nat → Int32)} {t d D : Nat} {Q : sm_Q} {I : sm_MI} {J : sm_MJ} {x1 : Int32} {rz : Int32} {Iz : sm_MI} {Jz : sm_MJ}
    (hD : 8 ≤ D) (h : F_Mo_valley x1 I J = some (rz, Iz, Jz)) (hQ : Q (.inl (some (.int rz))) (Iz, Jz, sm_rf t d))  : sm_W sm_sh X (sm_C sm_sh X sm_P D) me_191 Q (0, [some (.ref 61), some (.int x1), none], [], 0, 0) (I, J, sm_rf t d) := by
  unfold F_Mo_valley at h
  refine sm_W.runL (sm_C_mono D) 3 (G := True) (e := (sd_up I 61 0 (0 : Int32))) (fr' := fun _ => (3, [some (.ref 61), some (.int x1), none], [], 0, 0)) (M' := fun I1 => (I1, J, sm_rf t d)) rfl h trivial (fun I1 h => ?_)
  refine sm_W.run (sm_C_mono D) 3 (G := True) (fr' := (if decide (x1 < 0) = true then 12 else 6, [some (.ref 61), some (.int x1), none], [.ref 61], 0, 0)) (M' := (I1, J, sm_rf t d)) rfl trivial (sm_W.iteD h (fun hc h => ?_) (fun hc h => ?_))
  · refine sm_W.run (sm_C_mono D) 1 (G := True) (fr' := (13, [some (.ref 61), some (.int x1), none], [.int (0 : Int32), .ref 61], 0, 0)) (M' := (I1, J, sm_rf t d)) rfl trivial ?_
    exact (G_Mo_valley_13 hD h hQ)
  · refine sm_W.run (sm_C_mono D) 4 (G := True) (fr' := (if decide ((I1 61 15) < x1) = true then 12 else 10, [some (.ref 61), some (.int x1), none], [.ref 61], 0, 0)) (M' := (I1, J, sm_rf t d)) rfl trivial (sm_W.iteD h (fun hc h => ?_) (fun hc h => ?_))
    · refine sm_W.run (sm_C_mono D) 1 (G := True) (fr' := (13, [some (.ref 61), some (.int x1), none], [.int (0 : Int32), .ref 61], 0, 0)) (M' := (I1, J, sm_rf t d)) rfl trivial ?_
      exact (G_Mo_valley_13 hD h hQ)
    · refine sm_W.run (sm_C_mono D) 2 (G := True) (fr' := (13, [some (.ref 61), some (.int x1), none], [.int (1 : Int32), .ref 61], 0, 0)) (M' := (I1, J, sm_rf t d)) rfl trivial ?_
      exact (G_Mo_valley_13 hD h hQ)
theorem T_Mo_valley {X : Nat × (Nat → Int32)} {t d D : Nat} {Q : sm_Q} {I : sm_MI} {J : sm_MJ} {x1 : Int32} {rz : Int32} {Iz : sm_MI} {Jz : sm_MJ}
    (hD : 9 ≤ D) (h : F_Mo_valley x1 I J = some (rz, Iz, Jz)) (hQ : Q (.inl (some (.int rz))) (Iz, Jz, sm_rf t d)) : sm_C sm_sh X sm_P D 191 [.ref 61, .int x1] (I, J, sm_rf t d) Q := by
  cases D with
  | zero => omega
  | succ D => exact sm_C.of (me := me_191) (L := [some (.ref 61), some (.int x1), none]) rfl rfl rfl (sm_W.forget (L' := [some (.ref 61), some (.int x1), none]) ⟨rfl, ⟨rfl, trivial⟩⟩ (G_Mo_valley (by omega) h hQ))
-- 192 Mo_fault
noncomputable def F_Mo_fault (I : sm_MI) : Option (Int32 × sm_MI) :=
  sd_lt (sd_up I 61 0 (0 : Int32)) fun I1 =>
  some ((I1 61 17), I1)
theorem G_Mo_fault {X : Nat × (Nat → Int32)} {t d D : Nat} {Q : sm_Q} {I : sm_MI} {J : sm_MJ} {rz : Int32} {Iz : sm_MI}
    (hD : 0 ≤ D) (h : F_Mo_fault I = some (rz, Iz)) (hQ : Q (.inl (some (.int rz))) (Iz, J, sm_rf t d))  : sm_W sm_sh X (sm_C sm_sh X sm_P D) me_192 Q (0, [some (.ref 61)], [], 0, 0) (I, J, sm_rf t d) := by
  unfold F_Mo_fault at h
  refine sm_W.runL (sm_C_mono D) 3 (G := True) (e := (sd_up I 61 0 (0 : Int32))) (fr' := fun _ => (3, [some (.ref 61)], [], 0, 0)) (M' := fun I1 => (I1, J, sm_rf t d)) rfl h trivial (fun I1 h => ?_)
  refine sm_W.run (sm_C_mono D) 2 (G := True) (fr' := (5, [some (.ref 61)], [.int (I1 61 17)], 0, 0)) (M' := (I1, J, sm_rf t d)) rfl trivial ?_
  cases h
  exact sm_W.ret (sm_C_mono D) rfl hQ
theorem T_Mo_fault {X : Nat × (Nat → Int32)} {t d D : Nat} {Q : sm_Q} {I : sm_MI} {J : sm_MJ} {rz : Int32} {Iz : sm_MI}
    (hD : 1 ≤ D) (h : F_Mo_fault I = some (rz, Iz)) (hQ : Q (.inl (some (.int rz))) (Iz, J, sm_rf t d)) : sm_C sm_sh X sm_P D 192 [.ref 61] (I, J, sm_rf t d) Q := by
  cases D with
  | zero => omega
  | succ D => exact sm_C.of (me := me_192) (L := [some (.ref 61)]) rfl rfl rfl (sm_W.forget (L' := [some (.ref 61)]) ⟨rfl, trivial⟩ (G_Mo_fault (by omega) h hQ))
-- 193 Mo_keeps
noncomputable def F_Mo_keeps_29B (k29 : Int32 → sm_MI → Option (sm_MI)) (x1 : Int32) (I : sm_MI) : Option (sm_MI) :=
  if (16 : Int32) ≤ x1 then
    sd_lt (sd_up I 61 50 ((I 61 50) + (1 : Int32))) fun I1 =>
    some (I1)
  else
    sd_gu (sm_in x1 16 = true) <|
    sd_gu (sm_in (((16 : Int32) * (I 61 50)) + x1) 640 = true) <|
    sd_lt (sd_up I 88 (Int32.toNatClampNeg (((16 : Int32) * (I 61 50)) + x1)) (I 86 (Int32.toNatClampNeg x1))) fun I4 =>
    k29 (x1 + (1 : Int32)) I4
noncomputable def F_Mo_keeps_29  (n : Nat) : Int32 → sm_MI → Option (sm_MI) :=
  sd_fix (fun k x1 I => F_Mo_keeps_29B k x1 I) (fun _ _ => none) n
noncomputable def F_Mo_keeps_6B (k6 : Int32 → sm_MI → Option (sm_MI)) (x1 : Int32) (I : sm_MI) : Option (sm_MI) :=
  if (640 : Int32) ≤ x1 then
    sd_lt (sd_up I 61 50 ((I 61 50) - (1 : Int32))) fun I1 =>
    F_Mo_keeps_29 sd_fu (0 : Int32) I1
  else
    sd_gu (sm_in x1 640 = true) <|
    sd_gu (sm_in (x1 - (16 : Int32)) 640 = true) <|
    sd_lt (sd_up I 88 (Int32.toNatClampNeg (x1 - (16 : Int32))) (I 88 (Int32.toNatClampNeg x1))) fun I4 =>
    k6 (x1 + (1 : Int32)) I4
noncomputable def F_Mo_keeps_6  (n : Nat) : Int32 → sm_MI → Option (sm_MI) :=
  sd_fix (fun k x1 I => F_Mo_keeps_6B k x1 I) (fun _ _ => none) n
noncomputable def F_Mo_keeps (I : sm_MI) : Option (sm_MI) :=
  if ¬ (I 61 50) = (40 : Int32) then
    F_Mo_keeps_29 sd_fu (0 : Int32) I
  else
    F_Mo_keeps_6 sd_fu (16 : Int32) I
theorem G_Mo_keeps_29B {X : Nat × (Nat → Int32)} {t d D : Nat} {Q : sm_Q} {I : sm_MI} {J : sm_MJ} {k29 : Int32 → sm_MI → Option (sm_MI)} {x1 : Int32} {Iz : sm_MI}
    (hD : 0 ≤ D) (h : F_Mo_keeps_29B k29 x1 I = some (Iz)) (hQ : Q (.inl none) (Iz, J, sm_rf t d)) (hk29 : ∀ (x1 : Int32) (I : sm_MI), k29 x1 I = some (Iz) → sm_W sm_sh X (sm_C sm_sh X sm_P D) me_193 Q (29, [some (.ref 61), some (.int x1)], [], 0, 0) (I, J, sm_rf t d)) : sm_W sm_sh X (sm_C sm_sh X sm_P D) me_193 Q (29, [some (.ref 61), some (.int x1)], [], 0, 0) (I, J, sm_rf t d) := by
  unfold F_Mo_keeps_29B at h
  refine sm_W.run (sm_C_mono D) 3 (G := True) (fr' := (if decide ((16 : Int32) ≤ x1) = true then 47 else 32, [some (.ref 61), some (.int x1)], [], 0, 0)) (M' := (I, J, sm_rf t d)) rfl trivial (sm_W.iteD h (fun hc h => ?_) (fun hc h => ?_))
  · refine sm_W.runL (sm_C_mono D) 6 (G := True) (e := (sd_up I 61 50 ((I 61 50) + (1 : Int32)))) (fr' := fun _ => (53, [some (.ref 61), some (.int x1)], [], 0, 0)) (M' := fun I1 => (I1, J, sm_rf t d)) rfl h trivial (fun I1 h => ?_)
    cases h
    exact sm_W.ret (sm_C_mono D) rfl hQ
  · obtain ⟨g2, h⟩ := sd_gu_go h
    obtain ⟨g3, h⟩ := sd_gu_go h
    refine sm_W.runL (sm_C_mono D) 13 (G := sm_in x1 16 = true ∧ sm_in (((16 : Int32) * (I 61 50)) + x1) 640 = true ∧ True) (e := (sd_up I 88 (Int32.toNatClampNeg (((16 : Int32) * (I 61 50)) + x1)) (I 86 (Int32.toNatClampNeg x1)))) (fr' := fun _ => (45, [some (.ref 61), some (.int x1)], [], 0, 0)) (M' := fun I4 => (I4, J, sm_rf t d)) rfl h ⟨g2, g3, trivial⟩ (fun I4 h => ?_)
    refine sm_W.run (sm_C_mono D) 2 (G := True) (fr' := (29, [some (.ref 61), some (.int (x1 + (1 : Int32)))], [], 0, 0)) (M' := (I4, J, sm_rf t d)) rfl trivial ?_
    exact (hk29 _ _ h)
theorem G_Mo_keeps_29 {X : Nat × (Nat → Int32)} {t d D : Nat} {Q : sm_Q} {J : sm_MJ} {Iz : sm_MI}
    (hD : 0 ≤ D) (hQ : Q (.inl none) (Iz, J, sm_rf t d))  : ∀ (n : Nat) (x1 : Int32) (I : sm_MI), F_Mo_keeps_29 n x1 I = some (Iz) → sm_W sm_sh X (sm_C sm_sh X sm_P D) me_193 Q (29, [some (.ref 61), some (.int x1)], [], 0, 0) (I, J, sm_rf t d) := by
  intro n
  induction n with
  | zero => intro x1 I h; cases (show (none : Option (sm_MI)) = some (Iz) from h)
  | succ n ih => intro x1 I h; exact G_Mo_keeps_29B hD (show F_Mo_keeps_29B (F_Mo_keeps_29 n) x1 I = some (Iz) from h) hQ  ih
theorem G_Mo_keeps_6B {X : Nat × (Nat → Int32)} {t d D : Nat} {Q : sm_Q} {I : sm_MI} {J : sm_MJ} {k6 : Int32 → sm_MI → Option (sm_MI)} {x1 : Int32} {Iz : sm_MI}
    (hD : 0 ≤ D) (h : F_Mo_keeps_6B k6 x1 I = some (Iz)) (hQ : Q (.inl none) (Iz, J, sm_rf t d)) (hk6 : ∀ (x1 : Int32) (I : sm_MI), k6 x1 I = some (Iz) → sm_W sm_sh X (sm_C sm_sh X sm_P D) me_193 Q (6, [some (.ref 61), some (.int x1)], [], 0, 0) (I, J, sm_rf t d)) : sm_W sm_sh X (sm_C sm_sh X sm_P D) me_193 Q (6, [some (.ref 61), some (.int x1)], [], 0, 0) (I, J, sm_rf t d) := by
  unfold F_Mo_keeps_6B at h
  refine sm_W.run (sm_C_mono D) 3 (G := True) (fr' := (if decide ((640 : Int32) ≤ x1) = true then 21 else 9, [some (.ref 61), some (.int x1)], [], 0, 0)) (M' := (I, J, sm_rf t d)) rfl trivial (sm_W.iteD h (fun hc h => ?_) (fun hc h => ?_))
  · refine sm_W.runL (sm_C_mono D) 6 (G := True) (e := (sd_up I 61 50 ((I 61 50) - (1 : Int32)))) (fr' := fun _ => (27, [some (.ref 61), some (.int x1)], [], 0, 0)) (M' := fun I1 => (I1, J, sm_rf t d)) rfl h trivial (fun I1 h => ?_)
    refine sm_W.run (sm_C_mono D) 2 (G := True) (fr' := (29, [some (.ref 61), some (.int (0 : Int32))], [], 0, 0)) (M' := (I1, J, sm_rf t d)) rfl trivial ?_
    exact (G_Mo_keeps_29 hD hQ sd_fu _ _ h)
  · obtain ⟨g2, h⟩ := sd_gu_go h
    obtain ⟨g3, h⟩ := sd_gu_go h
    refine sm_W.runL (sm_C_mono D) 10 (G := sm_in x1 640 = true ∧ sm_in (x1 - (16 : Int32)) 640 = true ∧ True) (e := (sd_up I 88 (Int32.toNatClampNeg (x1 - (16 : Int32))) (I 88 (Int32.toNatClampNeg x1)))) (fr' := fun _ => (19, [some (.ref 61), some (.int x1)], [], 0, 0)) (M' := fun I4 => (I4, J, sm_rf t d)) rfl h ⟨g2, g3, trivial⟩ (fun I4 h => ?_)
    refine sm_W.run (sm_C_mono D) 2 (G := True) (fr' := (6, [some (.ref 61), some (.int (x1 + (1 : Int32)))], [], 0, 0)) (M' := (I4, J, sm_rf t d)) rfl trivial ?_
    exact (hk6 _ _ h)
theorem G_Mo_keeps_6 {X : Nat × (Nat → Int32)} {t d D : Nat} {Q : sm_Q} {J : sm_MJ} {Iz : sm_MI}
    (hD : 0 ≤ D) (hQ : Q (.inl none) (Iz, J, sm_rf t d))  : ∀ (n : Nat) (x1 : Int32) (I : sm_MI), F_Mo_keeps_6 n x1 I = some (Iz) → sm_W sm_sh X (sm_C sm_sh X sm_P D) me_193 Q (6, [some (.ref 61), some (.int x1)], [], 0, 0) (I, J, sm_rf t d) := by
  intro n
  induction n with
  | zero => intro x1 I h; cases (show (none : Option (sm_MI)) = some (Iz) from h)
  | succ n ih => intro x1 I h; exact G_Mo_keeps_6B hD (show F_Mo_keeps_6B (F_Mo_keeps_6 n) x1 I = some (Iz) from h) hQ  ih
theorem G_Mo_keeps {X : Nat × (Nat → Int32)} {t d D : Nat} {Q : sm_Q} {I : sm_MI} {J : sm_MJ} {Iz : sm_MI}
    (hD : 0 ≤ D) (h : F_Mo_keeps I = some (Iz)) (hQ : Q (.inl none) (Iz, J, sm_rf t d))  : sm_W sm_sh X (sm_C sm_sh X sm_P D) me_193 Q (0, [some (.ref 61), none], [], 0, 0) (I, J, sm_rf t d) := by
  unfold F_Mo_keeps at h
  refine sm_W.run (sm_C_mono D) 4 (G := True) (fr' := (if decide (¬ (I 61 50) = (40 : Int32)) = true then 27 else 4, [some (.ref 61), none], [], 0, 0)) (M' := (I, J, sm_rf t d)) rfl trivial (sm_W.iteD h (fun hc h => ?_) (fun hc h => ?_))
  · refine sm_W.run (sm_C_mono D) 2 (G := True) (fr' := (29, [some (.ref 61), some (.int (0 : Int32))], [], 0, 0)) (M' := (I, J, sm_rf t d)) rfl trivial ?_
    exact (G_Mo_keeps_29 hD hQ sd_fu _ _ h)
  · refine sm_W.run (sm_C_mono D) 2 (G := True) (fr' := (6, [some (.ref 61), some (.int (16 : Int32))], [], 0, 0)) (M' := (I, J, sm_rf t d)) rfl trivial ?_
    exact (G_Mo_keeps_6 hD hQ sd_fu _ _ h)
theorem T_Mo_keeps {X : Nat × (Nat → Int32)} {t d D : Nat} {Q : sm_Q} {I : sm_MI} {J : sm_MJ} {Iz : sm_MI}
    (hD : 1 ≤ D) (h : F_Mo_keeps I = some (Iz)) (hQ : Q (.inl none) (Iz, J, sm_rf t d)) : sm_C sm_sh X sm_P D 193 [.ref 61] (I, J, sm_rf t d) Q := by
  cases D with
  | zero => omega
  | succ D => exact sm_C.of (me := me_193) (L := [some (.ref 61), none]) rfl rfl rfl (sm_W.forget (L' := [some (.ref 61), none]) ⟨rfl, trivial⟩ (G_Mo_keeps (by omega) h hQ))
-- 194 Mo_refuses
noncomputable def F_Mo_refuses (x1 : Int32) (I : sm_MI) : Option (Int32 × sm_MI) :=
  sd_gu (sm_in x1 3 = true) <|
  sd_gu (sm_in x1 3 = true) <|
  sd_lt (sd_up I 73 (Int32.toNatClampNeg x1) ((I 73 (Int32.toNatClampNeg x1)) + (1 : Int32))) fun I3 =>
  some ((-1 : Int32), I3)
theorem G_Mo_refuses {X : Nat × (Nat → Int32)} {t d D : Nat} {Q : sm_Q} {I : sm_MI} {J : sm_MJ} {x1 : Int32} {rz : Int32} {Iz : sm_MI}
    (hD : 0 ≤ D) (h : F_Mo_refuses x1 I = some (rz, Iz)) (hQ : Q (.inl (some (.int rz))) (Iz, J, sm_rf t d))  : sm_W sm_sh X (sm_C sm_sh X sm_P D) me_194 Q (0, [some (.ref 61), some (.int x1)], [], 0, 0) (I, J, sm_rf t d) := by
  unfold F_Mo_refuses at h
  obtain ⟨g1, h⟩ := sd_gu_go h
  obtain ⟨g2, h⟩ := sd_gu_go h
  refine sm_W.runL (sm_C_mono D) 8 (G := sm_in x1 3 = true ∧ sm_in x1 3 = true ∧ True) (e := (sd_up I 73 (Int32.toNatClampNeg x1) ((I 73 (Int32.toNatClampNeg x1)) + (1 : Int32)))) (fr' := fun _ => (8, [some (.ref 61), some (.int x1)], [], 0, 0)) (M' := fun I3 => (I3, J, sm_rf t d)) rfl h ⟨g1, g2, trivial⟩ (fun I3 h => ?_)
  refine sm_W.run (sm_C_mono D) 1 (G := True) (fr' := (9, [some (.ref 61), some (.int x1)], [.int (-1 : Int32)], 0, 0)) (M' := (I3, J, sm_rf t d)) rfl trivial ?_
  cases h
  exact sm_W.ret (sm_C_mono D) rfl hQ
theorem T_Mo_refuses {X : Nat × (Nat → Int32)} {t d D : Nat} {Q : sm_Q} {I : sm_MI} {J : sm_MJ} {x1 : Int32} {rz : Int32} {Iz : sm_MI}
    (hD : 1 ≤ D) (h : F_Mo_refuses x1 I = some (rz, Iz)) (hQ : Q (.inl (some (.int rz))) (Iz, J, sm_rf t d)) : sm_C sm_sh X sm_P D 194 [.ref 61, .int x1] (I, J, sm_rf t d) Q := by
  cases D with
  | zero => omega
  | succ D => exact sm_C.of (me := me_194) (L := [some (.ref 61), some (.int x1)]) rfl rfl rfl (sm_W.forget (L' := [some (.ref 61), some (.int x1)]) ⟨rfl, ⟨rfl, trivial⟩⟩ (G_Mo_refuses (by omega) h hQ))
