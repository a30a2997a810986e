/-! ===== printed by wip/gen/emit_parts.py: what the methods compute ===== -/
-- 28 Reader_fail
noncomputable def F_Reader_fail (x1 : Int32) (I : sm_MI) : Option (Int32 × sm_MI) :=
  sd_lt (sd_up I 3 7 x1) fun I1 =>
  some ((0 : Int32), I1)
theorem G_Reader_fail {X : Nat × (Nat → Int32)} {t d D : Nat} {Q : sm_Q} {I : sm_MI} {J : sm_MJ} {x1 : Int32} {rz : Int32} {Iz : sm_MI}
    (hD : 0 ≤ D) (h : F_Reader_fail x1 I = some (rz, Iz)) (hQ : Q (.inl (some (.int rz))) (Iz, J, sm_rf t d))  : sm_W sm_sh X (sm_C sm_sh X sm_P D) me_28 Q (0, [some (.ref 3), some (.int x1)], [], 0, 0) (I, J, sm_rf t d) := by
  unfold F_Reader_fail at h
  refine sm_W.runL (sm_C_mono D) 3 (G := True) (e := (sd_up I 3 7 x1)) (fr' := fun _ => (3, [some (.ref 3), some (.int x1)], [], 0, 0)) (M' := fun I1 => (I1, J, sm_rf t d)) rfl h trivial (fun I1 h => ?_)
  refine sm_W.run (sm_C_mono D) 1 (G := True) (fr' := (4, [some (.ref 3), some (.int x1)], [.int (0 : Int32)], 0, 0)) (M' := (I1, J, sm_rf t d)) rfl trivial ?_
  cases h
  exact sm_W.ret (sm_C_mono D) rfl hQ
theorem T_Reader_fail {X : Nat × (Nat → Int32)} {t d D : Nat} {Q : sm_Q} {I : sm_MI} {J : sm_MJ} {x1 : Int32} {rz : Int32} {Iz : sm_MI}
    (hD : 1 ≤ D) (h : F_Reader_fail x1 I = some (rz, Iz)) (hQ : Q (.inl (some (.int rz))) (Iz, J, sm_rf t d)) : sm_C sm_sh X sm_P D 28 [.ref 3, .int x1] (I, J, sm_rf t d) Q := by
  cases D with
  | zero => omega
  | succ D => exact sm_C.of (me := me_28) (L := [some (.ref 3), some (.int x1)]) rfl rfl rfl (sm_W.forget (L' := [some (.ref 3), some (.int x1)]) ⟨rfl, ⟨rfl, trivial⟩⟩ (G_Reader_fail (by omega) h hQ))
-- 67 Tape_kindOf
noncomputable def F_Tape_kindOf (x1 : Int32) (I : sm_MI) : Option (Int32) :=
  if x1 < 0 then
    some ((33 : Int32))
  else
    if (I 4 4) ≤ x1 then
      some ((33 : Int32))
    else
      if (700 : Int32) ≤ x1 then
        some ((33 : Int32))
      else
        sd_gu (sm_in x1 700 = true) <|
        some ((I 6 (Int32.toNatClampNeg x1)))
theorem G_Tape_kindOf {X : Nat × (Nat → Int32)} {t d D : Nat} {Q : sm_Q} {I : sm_MI} {J : sm_MJ} {x1 : Int32} {rz : Int32}
    (hD : 0 ≤ D) (h : F_Tape_kindOf x1 I = some (rz)) (hQ : Q (.inl (some (.int rz))) (I, J, sm_rf t d))  : sm_W sm_sh X (sm_C sm_sh X sm_P D) me_67 Q (0, [some (.ref 4), some (.int x1)], [], 0, 0) (I, J, sm_rf t d) := by
  unfold F_Tape_kindOf at h
  refine sm_W.run (sm_C_mono D) 2 (G := True) (fr' := (if decide (x1 < 0) = true then 14 else 2, [some (.ref 4), some (.int x1)], [], 0, 0)) (M' := (I, J, sm_rf t d)) rfl trivial (sm_W.iteD h (fun hc h => ?_) (fun hc h => ?_))
  · refine sm_W.run (sm_C_mono D) 1 (G := True) (fr' := (15, [some (.ref 4), some (.int x1)], [.int (33 : Int32)], 0, 0)) (M' := (I, J, sm_rf t d)) rfl trivial ?_
    cases h
    exact sm_W.ret (sm_C_mono D) rfl hQ
  · refine sm_W.run (sm_C_mono D) 4 (G := True) (fr' := (if decide ((I 4 4) ≤ x1) = true then 14 else 6, [some (.ref 4), some (.int x1)], [], 0, 0)) (M' := (I, J, sm_rf t d)) rfl trivial (sm_W.iteD h (fun hc h => ?_) (fun hc h => ?_))
    · refine sm_W.run (sm_C_mono D) 1 (G := True) (fr' := (15, [some (.ref 4), some (.int x1)], [.int (33 : Int32)], 0, 0)) (M' := (I, J, sm_rf t d)) rfl trivial ?_
      cases h
      exact sm_W.ret (sm_C_mono D) rfl hQ
    · refine sm_W.run (sm_C_mono D) 3 (G := True) (fr' := (if decide ((700 : Int32) ≤ x1) = true then 14 else 9, [some (.ref 4), some (.int x1)], [], 0, 0)) (M' := (I, J, sm_rf t d)) rfl trivial (sm_W.iteD h (fun hc h => ?_) (fun hc h => ?_))
      · refine sm_W.run (sm_C_mono D) 1 (G := True) (fr' := (15, [some (.ref 4), some (.int x1)], [.int (33 : Int32)], 0, 0)) (M' := (I, J, sm_rf t d)) rfl trivial ?_
        cases h
        exact sm_W.ret (sm_C_mono D) rfl hQ
      · obtain ⟨g1, h⟩ := sd_gu_go h
        refine sm_W.run (sm_C_mono D) 5 (G := sm_in x1 700 = true ∧ True) (fr' := (15, [some (.ref 4), some (.int x1)], [.int (I 6 (Int32.toNatClampNeg x1))], 0, 0)) (M' := (I, J, sm_rf t d)) rfl ⟨g1, trivial⟩ ?_
        cases h
        exact sm_W.ret (sm_C_mono D) rfl hQ
theorem T_Tape_kindOf {X : Nat × (Nat → Int32)} {t d D : Nat} {Q : sm_Q} {I : sm_MI} {J : sm_MJ} {x1 : Int32} {rz : Int32}
    (hD : 1 ≤ D) (h : F_Tape_kindOf x1 I = some (rz)) (hQ : Q (.inl (some (.int rz))) (I, J, sm_rf t d)) : sm_C sm_sh X sm_P D 67 [.ref 4, .int x1] (I, J, sm_rf t d) Q := by
  cases D with
  | zero => omega
  | succ D => exact sm_C.of (me := me_67) (L := [some (.ref 4), some (.int x1)]) rfl rfl rfl (sm_W.forget (L' := [some (.ref 4), some (.int x1)]) ⟨rfl, ⟨rfl, trivial⟩⟩ (G_Tape_kindOf (by omega) h hQ))
-- 29 Reader_step
noncomputable def F_Reader_step (I : sm_MI) : Option (sm_MI) :=
  sd_lt (sd_up I 3 1 ((I 3 1) + (1 : Int32))) fun I1 =>
  sd_q1 (F_Tape_kindOf (I1 3 1) I1) fun r2 =>
  sd_lt (sd_up I1 3 2 r2) fun I3 =>
  some (I3)
theorem G_Reader_step {X : Nat × (Nat → Int32)} {t d D : Nat} {Q : sm_Q} {I : sm_MI} {J : sm_MJ} {Iz : sm_MI}
    (hD : 1 ≤ D) (h : F_Reader_step I = some (Iz)) (hQ : Q (.inl none) (Iz, J, sm_rf t d))  : sm_W sm_sh X (sm_C sm_sh X sm_P D) me_29 Q (0, [some (.ref 3)], [], 0, 0) (I, J, sm_rf t d) := by
  unfold F_Reader_step at h
  refine sm_W.runL (sm_C_mono D) 6 (G := True) (e := (sd_up I 3 1 ((I 3 1) + (1 : Int32)))) (fr' := fun _ => (6, [some (.ref 3)], [], 0, 0)) (M' := fun I1 => (I1, J, sm_rf t d)) rfl h trivial (fun I1 h => ?_)
  refine sm_W.run (sm_C_mono D) 5 (G := True) (fr' := (11, [some (.ref 3)], [.int (I1 3 1), .ref 4, .ref 3], 0, 0)) (M' := (I1, J, sm_rf t d)) rfl trivial ?_
  obtain ⟨r2, hc, h⟩ := sd_q1_go h
  refine sm_W.cal (sm_C_mono D) (y := 67) (as := [.ref 4, .int (I1 3 1)]) (fr' := (12, [some (.ref 3)], [.ref 3], 0, 0)) rfl (T_Tape_kindOf (by omega) hc ?_)
  show sm_W sm_sh X (sm_C sm_sh X sm_P D) me_29 Q (12, [some (.ref 3)], [.int r2, .ref 3], 0, 0) (I1, J, sm_rf t d)
  refine sm_W.runL (sm_C_mono D) 1 (G := True) (e := (sd_up I1 3 2 r2)) (fr' := fun _ => (13, [some (.ref 3)], [], 0, 0)) (M' := fun I3 => (I3, J, sm_rf t d)) rfl h trivial (fun I3 h => ?_)
  cases h
  exact sm_W.ret (sm_C_mono D) rfl hQ
theorem T_Reader_step {X : Nat × (Nat → Int32)} {t d D : Nat} {Q : sm_Q} {I : sm_MI} {J : sm_MJ} {Iz : sm_MI}
    (hD : 2 ≤ D) (h : F_Reader_step I = some (Iz)) (hQ : Q (.inl none) (Iz, J, sm_rf t d)) : sm_C sm_sh X sm_P D 29 [.ref 3] (I, J, sm_rf t d) Q := by
  cases D with
  | zero => omega
  | succ D => exact sm_C.of (me := me_29) (L := [some (.ref 3)]) rfl rfl rfl (sm_W.forget (L' := [some (.ref 3)]) ⟨rfl, trivial⟩ (G_Reader_step (by omega) h hQ))
-- 30 Reader_atSign
noncomputable def F_Reader_atSign (x1 : Int32) (I : sm_MI) : Option (Int32) :=
  if ¬ (I 3 2) = ((1000 : Int32) + x1) then
    some ((0 : Int32))
  else
    some ((1 : Int32))
theorem G_Reader_atSign {X : Nat × (Nat → Int32)} {t d D : Nat} {Q : sm_Q} {I : sm_MI} {J : sm_MJ} {x1 : Int32} {rz : Int32}
    (hD : 0 ≤ D) (h : F_Reader_atSign x1 I = some (rz)) (hQ : Q (.inl (some (.int rz))) (I, J, sm_rf t d))  : sm_W sm_sh X (sm_C sm_sh X sm_P D) me_30 Q (0, [some (.ref 3), some (.int x1)], [], 0, 0) (I, J, sm_rf t d) := by
  unfold F_Reader_atSign at h
  refine sm_W.run (sm_C_mono D) 6 (G := True) (fr' := (if decide (¬ (I 3 2) = ((1000 : Int32) + x1)) = true then 8 else 6, [some (.ref 3), some (.int x1)], [], 0, 0)) (M' := (I, J, sm_rf t d)) rfl trivial (sm_W.iteD h (fun hc h => ?_) (fun hc h => ?_))
  · refine sm_W.run (sm_C_mono D) 1 (G := True) (fr' := (9, [some (.ref 3), some (.int x1)], [.int (0 : Int32)], 0, 0)) (M' := (I, J, sm_rf t d)) rfl trivial ?_
    cases h
    exact sm_W.ret (sm_C_mono D) rfl hQ
  · refine sm_W.run (sm_C_mono D) 2 (G := True) (fr' := (9, [some (.ref 3), some (.int x1)], [.int (1 : Int32)], 0, 0)) (M' := (I, J, sm_rf t d)) rfl trivial ?_
    cases h
    exact sm_W.ret (sm_C_mono D) rfl hQ
theorem T_Reader_atSign {X : Nat × (Nat → Int32)} {t d D : Nat} {Q : sm_Q} {I : sm_MI} {J : sm_MJ} {x1 : Int32} {rz : Int32}
    (hD : 1 ≤ D) (h : F_Reader_atSign x1 I = some (rz)) (hQ : Q (.inl (some (.int rz))) (I, J, sm_rf t d)) : sm_C sm_sh X sm_P D 30 [.ref 3, .int x1] (I, J, sm_rf t d) Q := by
  cases D with
  | zero => omega
  | succ D => exact sm_C.of (me := me_30) (L := [some (.ref 3), some (.int x1)]) rfl rfl rfl (sm_W.forget (L' := [some (.ref 3), some (.int x1)]) ⟨rfl, ⟨rfl, trivial⟩⟩ (G_Reader_atSign (by omega) h hQ))
-- 35 Reader_readSign
noncomputable def F_Reader_readSign (x1 : Int32) (I : sm_MI) : Option (Int32 × sm_MI) :=
  sd_q1 (F_Reader_atSign x1 I) fun r1 =>
  if ¬ r1 = 0 then
    sd_q1 (F_Reader_step I) fun I2 =>
    some ((1 : Int32), I2)
  else
    sd_q2 (F_Reader_fail (1 : Int32) I) fun r3 I4 =>
    some ((vp_nar .boolean r3), I4)
theorem G_Reader_readSign {X : Nat × (Nat → Int32)} {t d D : Nat} {Q : sm_Q} {I : sm_MI} {J : sm_MJ} {x1 : Int32} {rz : Int32} {Iz : sm_MI}
    (hD : 2 ≤ D) (h : F_Reader_readSign x1 I = some (rz, Iz)) (hQ : Q (.inl (some (.int rz))) (Iz, J, sm_rf t d))  : sm_W sm_sh X (sm_C sm_sh X sm_P D) me_35 Q (0, [some (.ref 3), some (.int x1)], [], 0, 0) (I, J, sm_rf t d) := by
  unfold F_Reader_readSign at h
  refine sm_W.run (sm_C_mono D) 2 (G := True) (fr' := (2, [some (.ref 3), some (.int x1)], [.int x1, .ref 3], 0, 0)) (M' := (I, J, sm_rf t d)) rfl trivial ?_
  obtain ⟨r1, hc, h⟩ := sd_q1_go h
  refine sm_W.cal (sm_C_mono D) (y := 30) (as := [.ref 3, .int x1]) (fr' := (3, [some (.ref 3), some (.int x1)], [], 0, 0)) rfl (T_Reader_atSign (by omega) hc ?_)
  show sm_W sm_sh X (sm_C sm_sh X sm_P D) me_35 Q (3, [some (.ref 3), some (.int x1)], [.int r1], 0, 0) (I, J, sm_rf t d)
  refine sm_W.run (sm_C_mono D) 1 (G := True) (fr' := (if decide (¬ r1 = 0) = true then 8 else 4, [some (.ref 3), some (.int x1)], [], 0, 0)) (M' := (I, J, sm_rf t d)) rfl trivial (sm_W.iteD h (fun hc h => ?_) (fun hc h => ?_))
  · refine sm_W.run (sm_C_mono D) 1 (G := True) (fr' := (9, [some (.ref 3), some (.int x1)], [.ref 3], 0, 0)) (M' := (I, J, sm_rf t d)) rfl trivial ?_
    obtain ⟨I2, hc, h⟩ := sd_q1_go h
    refine sm_W.cal (sm_C_mono D) (y := 29) (as := [.ref 3]) (fr' := (10, [some (.ref 3), some (.int x1)], [], 0, 0)) rfl (T_Reader_step (by omega) hc ?_)
    show sm_W sm_sh X (sm_C sm_sh X sm_P D) me_35 Q (10, [some (.ref 3), some (.int x1)], [], 0, 0) (I2, J, sm_rf t d)
    refine sm_W.run (sm_C_mono D) 1 (G := True) (fr' := (11, [some (.ref 3), some (.int x1)], [.int (1 : Int32)], 0, 0)) (M' := (I2, J, sm_rf t d)) rfl trivial ?_
    cases h
    exact sm_W.ret (sm_C_mono D) rfl hQ
  · refine sm_W.run (sm_C_mono D) 2 (G := True) (fr' := (6, [some (.ref 3), some (.int x1)], [.int (1 : Int32), .ref 3], 0, 0)) (M' := (I, J, sm_rf t d)) rfl trivial ?_
    obtain ⟨r3, I4, hc, h⟩ := sd_q2_go h
    refine sm_W.cal (sm_C_mono D) (y := 28) (as := [.ref 3, .int (1 : Int32)]) (fr' := (7, [some (.ref 3), some (.int x1)], [], 0, 0)) rfl (T_Reader_fail (by omega) hc ?_)
    show sm_W sm_sh X (sm_C sm_sh X sm_P D) me_35 Q (7, [some (.ref 3), some (.int x1)], [.int r3], 0, 0) (I4, J, sm_rf t d)
    cases h
    exact sm_W.ret (sm_C_mono D) rfl hQ
theorem T_Reader_readSign {X : Nat × (Nat → Int32)} {t d D : Nat} {Q : sm_Q} {I : sm_MI} {J : sm_MJ} {x1 : Int32} {rz : Int32} {Iz : sm_MI}
    (hD : 3 ≤ D) (h : F_Reader_readSign x1 I = some (rz, Iz)) (hQ : Q (.inl (some (.int rz))) (Iz, J, sm_rf t d)) : sm_C sm_sh X sm_P D 35 [.ref 3, .int x1] (I, J, sm_rf t d) Q := by
  cases D with
  | zero => omega
  | succ D => exact sm_C.of (me := me_35) (L := [some (.ref 3), some (.int x1)]) rfl rfl rfl (sm_W.forget (L' := [some (.ref 3), some (.int x1)]) ⟨rfl, ⟨rfl, trivial⟩⟩ (G_Reader_readSign (by omega) h hQ))
-- 31 Reader_atNumber
noncomputable def F_Reader_atNumber (I : sm_MI) : Option (Int32) :=
  if (10000 : Int32) ≤ (I 3 2) then
    some ((1 : Int32))
  else
    if ¬ (I 3 2) = (31 : Int32) then
      some ((0 : Int32))
    else
      some ((1 : Int32))
theorem G_Reader_atNumber {X : Nat × (Nat → Int32)} {t d D : Nat} {Q : sm_Q} {I : sm_MI} {J : sm_MJ} {rz : Int32}
    (hD : 0 ≤ D) (h : F_Reader_atNumber I = some (rz)) (hQ : Q (.inl (some (.int rz))) (I, J, sm_rf t d))  : sm_W sm_sh X (sm_C sm_sh X sm_P D) me_31 Q (0, [some (.ref 3)], [], 0, 0) (I, J, sm_rf t d) := by
  unfold F_Reader_atNumber at h
  refine sm_W.run (sm_C_mono D) 4 (G := True) (fr' := (if decide ((10000 : Int32) ≤ (I 3 2)) = true then 8 else 4, [some (.ref 3)], [], 0, 0)) (M' := (I, J, sm_rf t d)) rfl trivial (sm_W.iteD h (fun hc h => ?_) (fun hc h => ?_))
  · refine sm_W.run (sm_C_mono D) 2 (G := True) (fr' := (11, [some (.ref 3)], [.int (1 : Int32)], 0, 0)) (M' := (I, J, sm_rf t d)) rfl trivial ?_
    cases h
    exact sm_W.ret (sm_C_mono D) rfl hQ
  · refine sm_W.run (sm_C_mono D) 4 (G := True) (fr' := (if decide (¬ (I 3 2) = (31 : Int32)) = true then 10 else 8, [some (.ref 3)], [], 0, 0)) (M' := (I, J, sm_rf t d)) rfl trivial (sm_W.iteD h (fun hc h => ?_) (fun hc h => ?_))
    · refine sm_W.run (sm_C_mono D) 1 (G := True) (fr' := (11, [some (.ref 3)], [.int (0 : Int32)], 0, 0)) (M' := (I, J, sm_rf t d)) rfl trivial ?_
      cases h
      exact sm_W.ret (sm_C_mono D) rfl hQ
    · refine sm_W.run (sm_C_mono D) 2 (G := True) (fr' := (11, [some (.ref 3)], [.int (1 : Int32)], 0, 0)) (M' := (I, J, sm_rf t d)) rfl trivial ?_
      cases h
      exact sm_W.ret (sm_C_mono D) rfl hQ
theorem T_Reader_atNumber {X : Nat × (Nat → Int32)} {t d D : Nat} {Q : sm_Q} {I : sm_MI} {J : sm_MJ} {rz : Int32}
    (hD : 1 ≤ D) (h : F_Reader_atNumber I = some (rz)) (hQ : Q (.inl (some (.int rz))) (I, J, sm_rf t d)) : sm_C sm_sh X sm_P D 31 [.ref 3] (I, J, sm_rf t d) Q := by
  cases D with
  | zero => omega
  | succ D => exact sm_C.of (me := me_31) (L := [some (.ref 3)]) rfl rfl rfl (sm_W.forget (L' := [some (.ref 3)]) ⟨rfl, trivial⟩ (G_Reader_atNumber (by omega) h hQ))
-- 36 Reader_readNumber
noncomputable def F_Reader_readNumber_21 (I : sm_MI) : Option (Int32 × sm_MI) :=
  sd_q2 (F_Reader_fail (2 : Int32) I) fun r1 I2 =>
  some ((vp_nar .boolean r1), I2)
noncomputable def F_Reader_readNumber (x1 : Int32) (x2 : Int32) (I : sm_MI) : Option (Int32 × sm_MI) :=
  sd_q1 (F_Reader_atNumber I) fun r1 =>
  if ¬ r1 = 0 then
    sd_lt (sd_up I 3 3 ((I 3 2) - (10000 : Int32))) fun I2 =>
    if (I2 3 3) < x1 then
      F_Reader_readNumber_21 I2
    else
      if (I2 3 3) ≤ x2 then
        sd_q1 (F_Reader_step I2) fun I3 =>
        some ((1 : Int32), I3)
      else
        F_Reader_readNumber_21 I2
  else
    sd_q2 (F_Reader_fail (1 : Int32) I) fun r4 I5 =>
    some ((vp_nar .boolean r4), I5)
theorem G_Reader_readNumber_21 {X : Nat × (Nat → Int32)} {t d D : Nat} {Q : sm_Q} {I : sm_MI} {J : sm_MJ} {rz : Int32} {Iz : sm_MI}
    (hD : 2 ≤ D) (h : F_Reader_readNumber_21 I = some (rz, Iz)) (hQ : Q (.inl (some (.int rz))) (Iz, J, sm_rf t d))  : sm_W sm_sh X (sm_C sm_sh X sm_P D) me_36 Q (21, [some (.ref 3), none, none], [], 0, 0) (I, J, sm_rf t d) := by
  unfold F_Reader_readNumber_21 at h
  refine sm_W.run (sm_C_mono D) 2 (G := True) (fr' := (23, [some (.ref 3), none, none], [.int (2 : Int32), .ref 3], 0, 0)) (M' := (I, J, sm_rf t d)) rfl trivial ?_
  obtain ⟨r1, I2, hc, h⟩ := sd_q2_go h
  refine sm_W.cal (sm_C_mono D) (y := 28) (as := [.ref 3, .int (2 : Int32)]) (fr' := (24, [some (.ref 3), none, none], [], 0, 0)) rfl (T_Reader_fail (by omega) hc ?_)
  show sm_W sm_sh X (sm_C sm_sh X sm_P D) me_36 Q (24, [some (.ref 3), none, none], [.int r1], 0, 0) (I2, J, sm_rf t d)
  cases h
  exact sm_W.ret (sm_C_mono D) rfl hQ
theorem G_Reader_readNumber {X : Nat × (Nat → Int32)} {t d D : Nat} {Q : sm_Q} {I : sm_MI} {J : sm_MJ} {x1 : Int32} {x2 : Int32} {rz : Int32} {Iz : sm_MI}
    (hD : 2 ≤ D) (h : F_Reader_readNumber x1 x2 I = some (rz, Iz)) (hQ : Q (.inl (some (.int rz))) (Iz, J, sm_rf t d))  : sm_W sm_sh X (sm_C sm_sh X sm_P D) me_36 Q (0, [some (.ref 3), some (.int x1), some (.int x2)], [], 0, 0) (I, J, sm_rf t d) := by
  unfold F_Reader_readNumber at h
  refine sm_W.run (sm_C_mono D) 1 (G := True) (fr' := (1, [some (.ref 3), some (.int x1), some (.int x2)], [.ref 3], 0, 0)) (M' := (I, J, sm_rf t d)) rfl trivial ?_
  obtain ⟨r1, hc, h⟩ := sd_q1_go h
  refine sm_W.cal (sm_C_mono D) (y := 31) (as := [.ref 3]) (fr' := (2, [some (.ref 3), some (.int x1), some (.int x2)], [], 0, 0)) rfl (T_Reader_atNumber (by omega) hc ?_)
  show sm_W sm_sh X (sm_C sm_sh X sm_P D) me_36 Q (2, [some (.ref 3), some (.int x1), some (.int x2)], [.int r1], 0, 0) (I, J, sm_rf t d)
  refine sm_W.run (sm_C_mono D) 1 (G := True) (fr' := (if decide (¬ r1 = 0) = true then 7 else 3, [some (.ref 3), some (.int x1), some (.int x2)], [], 0, 0)) (M' := (I, J, sm_rf t d)) rfl trivial (sm_W.iteD h (fun hc h => ?_) (fun hc h => ?_))
  · refine sm_W.runL (sm_C_mono D) 6 (G := True) (e := (sd_up I 3 3 ((I 3 2) - (10000 : Int32)))) (fr' := fun _ => (13, [some (.ref 3), some (.int x1), some (.int x2)], [], 0, 0)) (M' := fun I2 => (I2, J, sm_rf t d)) rfl h trivial (fun I2 h => ?_)
    refine sm_W.run (sm_C_mono D) 4 (G := True) (fr' := (if decide ((I2 3 3) < x1) = true then 21 else 17, [some (.ref 3), some (.int x1), some (.int x2)], [], 0, 0)) (M' := (I2, J, sm_rf t d)) rfl trivial (sm_W.iteD h (fun hc h => ?_) (fun hc h => ?_))
    · exact sm_W.forget (L' := [some (.ref 3), none, none]) ⟨rfl, trivial⟩ (G_Reader_readNumber_21 hD h hQ)
    · refine sm_W.run (sm_C_mono D) 4 (G := True) (fr' := (if decide ((I2 3 3) ≤ x2) = true then 25 else 21, [some (.ref 3), some (.int x1), some (.int x2)], [], 0, 0)) (M' := (I2, J, sm_rf t d)) rfl trivial (sm_W.iteD h (fun hc h => ?_) (fun hc h => ?_))
      · refine sm_W.run (sm_C_mono D) 1 (G := True) (fr' := (26, [some (.ref 3), some (.int x1), some (.int x2)], [.ref 3], 0, 0)) (M' := (I2, J, sm_rf t d)) rfl trivial ?_
        obtain ⟨I3, hc, h⟩ := sd_q1_go h
        refine sm_W.cal (sm_C_mono D) (y := 29) (as := [.ref 3]) (fr' := (27, [some (.ref 3), some (.int x1), some (.int x2)], [], 0, 0)) rfl (T_Reader_step (by omega) hc ?_)
        show sm_W sm_sh X (sm_C sm_sh X sm_P D) me_36 Q (27, [some (.ref 3), some (.int x1), some (.int x2)], [], 0, 0) (I3, J, sm_rf t d)
        refine sm_W.run (sm_C_mono D) 1 (G := True) (fr' := (28, [some (.ref 3), some (.int x1), some (.int x2)], [.int (1 : Int32)], 0, 0)) (M' := (I3, J, sm_rf t d)) rfl trivial ?_
        cases h
        exact sm_W.ret (sm_C_mono D) rfl hQ
      · exact sm_W.forget (L' := [some (.ref 3), none, none]) ⟨rfl, trivial⟩ (G_Reader_readNumber_21 hD h hQ)
  · refine sm_W.run (sm_C_mono D) 2 (G := True) (fr' := (5, [some (.ref 3), some (.int x1), some (.int x2)], [.int (1 : Int32), .ref 3], 0, 0)) (M' := (I, J, sm_rf t d)) rfl trivial ?_
    obtain ⟨r4, I5, hc, h⟩ := sd_q2_go h
    refine sm_W.cal (sm_C_mono D) (y := 28) (as := [.ref 3, .int (1 : Int32)]) (fr' := (6, [some (.ref 3), some (.int x1), some (.int x2)], [], 0, 0)) rfl (T_Reader_fail (by omega) hc ?_)
    show sm_W sm_sh X (sm_C sm_sh X sm_P D) me_36 Q (6, [some (.ref 3), some (.int x1), some (.int x2)], [.int r4], 0, 0) (I5, J, sm_rf t d)
    cases h
    exact sm_W.ret (sm_C_mono D) rfl hQ
theorem T_Reader_readNumber {X : Nat × (Nat → Int32)} {t d D : Nat} {Q : sm_Q} {I : sm_MI} {J : sm_MJ} {x1 : Int32} {x2 : Int32} {rz : Int32} {Iz : sm_MI}
    (hD : 3 ≤ D) (h : F_Reader_readNumber x1 x2 I = some (rz, Iz)) (hQ : Q (.inl (some (.int rz))) (Iz, J, sm_rf t d)) : sm_C sm_sh X sm_P D 36 [.ref 3, .int x1, .int x2] (I, J, sm_rf t d) Q := by
  cases D with
  | zero => omega
  | succ D => exact sm_C.of (me := me_36) (L := [some (.ref 3), some (.int x1), some (.int x2)]) rfl rfl rfl (sm_W.forget (L' := [some (.ref 3), some (.int x1), some (.int x2)]) ⟨rfl, ⟨rfl, ⟨rfl, trivial⟩⟩⟩ (G_Reader_readNumber (by omega) h hQ))
-- 32 Reader_atWord
noncomputable def F_Reader_atWord (I : sm_MI) : Option (Int32) :=
  if (I 3 2) < 0 then
    some ((0 : Int32))
  else
    if (24 : Int32) < (I 3 2) then
      some ((0 : Int32))
    else
      some ((1 : Int32))
theorem G_Reader_atWord {X : Nat × (Nat → Int32)} {t d D : Nat} {Q : sm_Q} {I : sm_MI} {J : sm_MJ} {rz : Int32}
    (hD : 0 ≤ D) (h : F_Reader_atWord I = some (rz)) (hQ : Q (.inl (some (.int rz))) (I, J, sm_rf t d))  : sm_W sm_sh X (sm_C sm_sh X sm_P D) me_32 Q (0, [some (.ref 3)], [], 0, 0) (I, J, sm_rf t d) := by
  unfold F_Reader_atWord at h
  refine sm_W.run (sm_C_mono D) 3 (G := True) (fr' := (if decide ((I 3 2) < 0) = true then 9 else 3, [some (.ref 3)], [], 0, 0)) (M' := (I, J, sm_rf t d)) rfl trivial (sm_W.iteD h (fun hc h => ?_) (fun hc h => ?_))
  · refine sm_W.run (sm_C_mono D) 1 (G := True) (fr' := (10, [some (.ref 3)], [.int (0 : Int32)], 0, 0)) (M' := (I, J, sm_rf t d)) rfl trivial ?_
    cases h
    exact sm_W.ret (sm_C_mono D) rfl hQ
  · refine sm_W.run (sm_C_mono D) 4 (G := True) (fr' := (if decide ((24 : Int32) < (I 3 2)) = true then 9 else 7, [some (.ref 3)], [], 0, 0)) (M' := (I, J, sm_rf t d)) rfl trivial (sm_W.iteD h (fun hc h => ?_) (fun hc h => ?_))
    · refine sm_W.run (sm_C_mono D) 1 (G := True) (fr' := (10, [some (.ref 3)], [.int (0 : Int32)], 0, 0)) (M' := (I, J, sm_rf t d)) rfl trivial ?_
      cases h
      exact sm_W.ret (sm_C_mono D) rfl hQ
    · refine sm_W.run (sm_C_mono D) 2 (G := True) (fr' := (10, [some (.ref 3)], [.int (1 : Int32)], 0, 0)) (M' := (I, J, sm_rf t d)) rfl trivial ?_
      cases h
      exact sm_W.ret (sm_C_mono D) rfl hQ
theorem T_Reader_atWord {X : Nat × (Nat → Int32)} {t d D : Nat} {Q : sm_Q} {I : sm_MI} {J : sm_MJ} {rz : Int32}
    (hD : 1 ≤ D) (h : F_Reader_atWord I = some (rz)) (hQ : Q (.inl (some (.int rz))) (I, J, sm_rf t d)) : sm_C sm_sh X sm_P D 32 [.ref 3] (I, J, sm_rf t d) Q := by
  cases D with
  | zero => omega
  | succ D => exact sm_C.of (me := me_32) (L := [some (.ref 3)]) rfl rfl rfl (sm_W.forget (L' := [some (.ref 3)]) ⟨rfl, trivial⟩ (G_Reader_atWord (by omega) h hQ))
-- 52 Rules_add
noncomputable def F_Rules_add (p0 : Nat) (x1 : Int32) (I : sm_MI) : Option (sm_MI) :=
  if (I p0 1) < 0 then
    some (I)
  else
    if (700 : Int32) ≤ (I p0 1) then
      some (I)
    else
      sd_gu (sm_in (I p0 1) 700 = true) <|
      sd_lt (sd_up I (p0 + 1) (Int32.toNatClampNeg (I p0 1)) x1) fun I2 =>
      sd_lt (sd_up I2 p0 1 ((I2 p0 1) + (1 : Int32))) fun I3 =>
      some (I3)
theorem G_Rules_add {X : Nat × (Nat → Int32)} {t d D : Nat} {Q : sm_Q} {I : sm_MI} {J : sm_MJ} {p0 : Nat} {x1 : Int32} {Iz : sm_MI}
    (hD : 0 ≤ D) (hp : (p0 = 35) ∨ (p0 = 55)) (h : F_Rules_add p0 x1 I = some (Iz)) (hQ : Q (.inl none) (Iz, J, sm_rf t d))  : sm_W sm_sh X (sm_C sm_sh X sm_P D) me_52 Q (0, [some (.ref p0), some (.int x1)], [], 0, 0) (I, J, sm_rf t d) := by
  unfold F_Rules_add at h
  rcases hp with rfl | rfl
  · skip
    refine sm_W.run (sm_C_mono D) 3 (G := True) (fr' := (if decide ((I 35 1) < 0) = true then 19 else 3, [some (.ref 35), some (.int x1)], [], 0, 0)) (M' := (I, J, sm_rf t d)) rfl trivial (sm_W.iteD h (fun hc h => ?_) (fun hc h => ?_))
    · cases h
      exact sm_W.ret (sm_C_mono D) rfl hQ
    · refine sm_W.run (sm_C_mono D) 4 (G := True) (fr' := (if decide ((700 : Int32) ≤ (I 35 1)) = true then 19 else 7, [some (.ref 35), some (.int x1)], [], 0, 0)) (M' := (I, J, sm_rf t d)) rfl trivial (sm_W.iteD h (fun hc h => ?_) (fun hc h => ?_))
      · cases h
        exact sm_W.ret (sm_C_mono D) rfl hQ
      · obtain ⟨g1, h⟩ := sd_gu_go h
        refine sm_W.runL (sm_C_mono D) 6 (G := sm_in (I 35 1) 700 = true ∧ True) (e := (sd_up I (35 + 1) (Int32.toNatClampNeg (I 35 1)) x1)) (fr' := fun _ => (13, [some (.ref 35), some (.int x1)], [], 0, 0)) (M' := fun I2 => (I2, J, sm_rf t d)) rfl h ⟨g1, trivial⟩ (fun I2 h => ?_)
        refine sm_W.runL (sm_C_mono D) 6 (G := True) (e := (sd_up I2 35 1 ((I2 35 1) + (1 : Int32)))) (fr' := fun _ => (19, [some (.ref 35), some (.int x1)], [], 0, 0)) (M' := fun I3 => (I3, J, sm_rf t d)) rfl h trivial (fun I3 h => ?_)
        cases h
        exact sm_W.ret (sm_C_mono D) rfl hQ
  · skip
    refine sm_W.run (sm_C_mono D) 3 (G := True) (fr' := (if decide ((I 55 1) < 0) = true then 19 else 3, [some (.ref 55), some (.int x1)], [], 0, 0)) (M' := (I, J, sm_rf t d)) rfl trivial (sm_W.iteD h (fun hc h => ?_) (fun hc h => ?_))
    · cases h
      exact sm_W.ret (sm_C_mono D) rfl hQ
    · refine sm_W.run (sm_C_mono D) 4 (G := True) (fr' := (if decide ((700 : Int32) ≤ (I 55 1)) = true then 19 else 7, [some (.ref 55), some (.int x1)], [], 0, 0)) (M' := (I, J, sm_rf t d)) rfl trivial (sm_W.iteD h (fun hc h => ?_) (fun hc h => ?_))
      · cases h
        exact sm_W.ret (sm_C_mono D) rfl hQ
      · obtain ⟨g1, h⟩ := sd_gu_go h
        refine sm_W.runL (sm_C_mono D) 6 (G := sm_in (I 55 1) 700 = true ∧ True) (e := (sd_up I (55 + 1) (Int32.toNatClampNeg (I 55 1)) x1)) (fr' := fun _ => (13, [some (.ref 55), some (.int x1)], [], 0, 0)) (M' := fun I2 => (I2, J, sm_rf t d)) rfl h ⟨g1, trivial⟩ (fun I2 h => ?_)
        refine sm_W.runL (sm_C_mono D) 6 (G := True) (e := (sd_up I2 55 1 ((I2 55 1) + (1 : Int32)))) (fr' := fun _ => (19, [some (.ref 55), some (.int x1)], [], 0, 0)) (M' := fun I3 => (I3, J, sm_rf t d)) rfl h trivial (fun I3 h => ?_)
        cases h
        exact sm_W.ret (sm_C_mono D) rfl hQ
theorem T_Rules_add {X : Nat × (Nat → Int32)} {t d D : Nat} {Q : sm_Q} {I : sm_MI} {J : sm_MJ} {p0 : Nat} {x1 : Int32} {Iz : sm_MI}
    (hD : 1 ≤ D) (hp : (p0 = 35) ∨ (p0 = 55)) (h : F_Rules_add p0 x1 I = some (Iz)) (hQ : Q (.inl none) (Iz, J, sm_rf t d)) : sm_C sm_sh X sm_P D 52 [.ref p0, .int x1] (I, J, sm_rf t d) Q := by
  cases D with
  | zero => omega
  | succ D => exact sm_C.of (me := me_52) (L := [some (.ref p0), some (.int x1)]) rfl rfl rfl (sm_W.forget (L' := [some (.ref p0), some (.int x1)]) ⟨rfl, ⟨rfl, trivial⟩⟩ (G_Rules_add (by omega) hp h hQ))
-- 48 Reader_readTerm
noncomputable def F_Reader_readTerm_36 (p1 : Nat) (kE : Nat → Int32 → sm_MI → Option (Int32 × sm_MI)) (I : sm_MI) : Option (Int32 × sm_MI) :=
  sd_q2 (F_Reader_fail (3 : Int32) I) fun r1 I2 =>
  some ((vp_nar .boolean r1), I2)
noncomputable def F_Reader_readTerm (p1 : Nat) (kE : Nat → Int32 → sm_MI → Option (Int32 × sm_MI)) (x2 : Int32) (I : sm_MI) : Option (Int32 × sm_MI) :=
  sd_q1 (F_Reader_atSign (40 : Int32) I) fun r1 =>
  if r1 = 0 then
    sd_q1 (F_Reader_atWord I) fun r2 =>
    if r2 = 0 then
      sd_q2 (F_Reader_readNumber (0 : Int32) (9999 : Int32) I) fun r3 I4 =>
      if ¬ r3 = 0 then
        sd_q1 (F_Rules_add p1 (I4 3 3) I4) fun I5 =>
        some ((1 : Int32), I5)
      else
        some ((0 : Int32), I4)
    else
      sd_lt ((I 3 2) - (I 3 5)) fun a6 =>
      if a6 < 0 then
        F_Reader_readTerm_36 p1 kE I
      else
        if a6 < (I 3 6) then
          sd_q1 (F_Rules_add p1 ((10000 : Int32) + a6) I) fun I7 =>
          sd_q1 (F_Reader_step I7) fun I8 =>
          some ((1 : Int32), I8)
        else
          F_Reader_readTerm_36 p1 kE I
  else
    sd_q1 (F_Reader_step I) fun I9 =>
    sd_q2 (kE p1 (x2 + (1 : Int32)) I9) fun r10 I11 =>
    if r10 = 0 then
      some ((0 : Int32), I11)
    else
      sd_q2 (F_Reader_readSign (41 : Int32) I11) fun r12 I13 =>
      if r12 = 0 then
        some ((0 : Int32), I13)
      else
        some ((1 : Int32), I13)
theorem G_Reader_readTerm_36 {X : Nat × (Nat → Int32)} {t d D DE : Nat} {Q : sm_Q} {I : sm_MI} {J : sm_MJ} {p1 : Nat} {kE : Nat → Int32 → sm_MI → Option (Int32 × sm_MI)} {rz : Int32} {Iz : sm_MI}
    (hD : 3 ≤ D) (hp : (p1 = 35) ∨ (p1 = 55)) (hE : ∀ (r : Nat) (x : Int32) (I : sm_MI) (v : Int32) (I9 : sm_MI) (Q : sm_Q), (r = 35 ∨ r = 55) → kE r x I = some (v, I9) → Q (.inl (some (.int v))) (I9, J, sm_rf t d) → sm_C sm_sh X sm_P DE 42 [.ref 3, .ref r, .int x] (I, J, sm_rf t d) Q) (hDE : DE + 0 ≤ D) (h : F_Reader_readTerm_36 p1 kE I = some (rz, Iz)) (hQ : Q (.inl (some (.int rz))) (Iz, J, sm_rf t d))  : sm_W sm_sh X (sm_C sm_sh X sm_P D) me_48 Q (36, [some (.ref 3), none, none, none], [], 0, 0) (I, J, sm_rf t d) := by
  unfold F_Reader_readTerm_36 at h
  rcases hp with rfl | rfl
  · skip
    refine sm_W.run (sm_C_mono D) 2 (G := True) (fr' := (38, [some (.ref 3), none, none, none], [.int (3 : Int32), .ref 3], 0, 0)) (M' := (I, J, sm_rf t d)) rfl trivial ?_
    obtain ⟨r1, I2, hc, h⟩ := sd_q2_go h
    refine sm_W.cal (sm_C_mono D) (y := 28) (as := [.ref 3, .int (3 : Int32)]) (fr' := (39, [some (.ref 3), none, none, none], [], 0, 0)) rfl (T_Reader_fail (by omega) hc ?_)
    show sm_W sm_sh X (sm_C sm_sh X sm_P D) me_48 Q (39, [some (.ref 3), none, none, none], [.int r1], 0, 0) (I2, J, sm_rf t d)
    cases h
    exact sm_W.ret (sm_C_mono D) rfl hQ
  · skip
    refine sm_W.run (sm_C_mono D) 2 (G := True) (fr' := (38, [some (.ref 3), none, none, none], [.int (3 : Int32), .ref 3], 0, 0)) (M' := (I, J, sm_rf t d)) rfl trivial ?_
    obtain ⟨r1, I2, hc, h⟩ := sd_q2_go h
    refine sm_W.cal (sm_C_mono D) (y := 28) (as := [.ref 3, .int (3 : Int32)]) (fr' := (39, [some (.ref 3), none, none, none], [], 0, 0)) rfl (T_Reader_fail (by omega) hc ?_)
    show sm_W sm_sh X (sm_C sm_sh X sm_P D) me_48 Q (39, [some (.ref 3), none, none, none], [.int r1], 0, 0) (I2, J, sm_rf t d)
    cases h
    exact sm_W.ret (sm_C_mono D) rfl hQ
theorem G_Reader_readTerm {X : Nat × (Nat → Int32)} {t d D DE : Nat} {Q : sm_Q} {I : sm_MI} {J : sm_MJ} {p1 : Nat} {kE : Nat → Int32 → sm_MI → Option (Int32 × sm_MI)} {x2 : Int32} {rz : Int32} {Iz : sm_MI}
    (hD : 3 ≤ D) (hp : (p1 = 35) ∨ (p1 = 55)) (hE : ∀ (r : Nat) (x : Int32) (I : sm_MI) (v : Int32) (I9 : sm_MI) (Q : sm_Q), (r = 35 ∨ r = 55) → kE r x I = some (v, I9) → Q (.inl (some (.int v))) (I9, J, sm_rf t d) → sm_C sm_sh X sm_P DE 42 [.ref 3, .ref r, .int x] (I, J, sm_rf t d) Q) (hDE : DE + 0 ≤ D) (h : F_Reader_readTerm p1 kE x2 I = some (rz, Iz)) (hQ : Q (.inl (some (.int rz))) (Iz, J, sm_rf t d))  : sm_W sm_sh X (sm_C sm_sh X sm_P D) me_48 Q (0, [some (.ref 3), some (.ref p1), some (.int x2), none], [], 0, 0) (I, J, sm_rf t d) := by
  unfold F_Reader_readTerm at h
  rcases hp with rfl | rfl
  · skip
    refine sm_W.run (sm_C_mono D) 2 (G := True) (fr' := (2, [some (.ref 3), some (.ref 35), some (.int x2), none], [.int (40 : Int32), .ref 3], 0, 0)) (M' := (I, J, sm_rf t d)) rfl trivial ?_
    obtain ⟨r1, hc, h⟩ := sd_q1_go h
    refine sm_W.cal (sm_C_mono D) (y := 30) (as := [.ref 3, .int (40 : Int32)]) (fr' := (3, [some (.ref 3), some (.ref 35), some (.int x2), none], [], 0, 0)) rfl (T_Reader_atSign (by omega) hc ?_)
    show sm_W sm_sh X (sm_C sm_sh X sm_P D) me_48 Q (3, [some (.ref 3), some (.ref 35), some (.int x2), none], [.int r1], 0, 0) (I, J, sm_rf t d)
    refine sm_W.run (sm_C_mono D) 1 (G := True) (fr' := (if decide (r1 = 0) = true then 21 else 4, [some (.ref 3), some (.ref 35), some (.int x2), none], [], 0, 0)) (M' := (I, J, sm_rf t d)) rfl trivial (sm_W.iteD h (fun hc h => ?_) (fun hc h => ?_))
    · refine sm_W.run (sm_C_mono D) 1 (G := True) (fr' := (22, [some (.ref 3), some (.ref 35), some (.int x2), none], [.ref 3], 0, 0)) (M' := (I, J, sm_rf t d)) rfl trivial ?_
      obtain ⟨r2, hc, h⟩ := sd_q1_go h
      refine sm_W.cal (sm_C_mono D) (y := 32) (as := [.ref 3]) (fr' := (23, [some (.ref 3), some (.ref 35), some (.int x2), none], [], 0, 0)) rfl (T_Reader_atWord (by omega) hc ?_)
      show sm_W sm_sh X (sm_C sm_sh X sm_P D) me_48 Q (23, [some (.ref 3), some (.ref 35), some (.int x2), none], [.int r2], 0, 0) (I, J, sm_rf t d)
      refine sm_W.run (sm_C_mono D) 1 (G := True) (fr' := (if decide (r2 = 0) = true then 49 else 24, [some (.ref 3), some (.ref 35), some (.int x2), none], [], 0, 0)) (M' := (I, J, sm_rf t d)) rfl trivial (sm_W.iteD h (fun hc h => ?_) (fun hc h => ?_))
      · refine sm_W.run (sm_C_mono D) 3 (G := True) (fr' := (52, [some (.ref 3), some (.ref 35), some (.int x2), none], [.int (9999 : Int32), .int (0 : Int32), .ref 3], 0, 0)) (M' := (I, J, sm_rf t d)) rfl trivial ?_
        obtain ⟨r3, I4, hc, h⟩ := sd_q2_go h
        refine sm_W.cal (sm_C_mono D) (y := 36) (as := [.ref 3, .int (0 : Int32), .int (9999 : Int32)]) (fr' := (53, [some (.ref 3), some (.ref 35), some (.int x2), none], [], 0, 0)) rfl (T_Reader_readNumber (by omega) hc ?_)
        show sm_W sm_sh X (sm_C sm_sh X sm_P D) me_48 Q (53, [some (.ref 3), some (.ref 35), some (.int x2), none], [.int r3], 0, 0) (I4, J, sm_rf t d)
        refine sm_W.run (sm_C_mono D) 1 (G := True) (fr' := (if decide (¬ r3 = 0) = true then 56 else 54, [some (.ref 3), some (.ref 35), some (.int x2), none], [], 0, 0)) (M' := (I4, J, sm_rf t d)) rfl trivial (sm_W.iteD h (fun hc h => ?_) (fun hc h => ?_))
        · refine sm_W.run (sm_C_mono D) 3 (G := True) (fr' := (59, [some (.ref 3), some (.ref 35), some (.int x2), none], [.int (I4 3 3), .ref 35], 0, 0)) (M' := (I4, J, sm_rf t d)) rfl trivial ?_
          obtain ⟨I5, hc, h⟩ := sd_q1_go h
          refine sm_W.cal (sm_C_mono D) (y := 52) (as := [.ref 35, .int (I4 3 3)]) (fr' := (60, [some (.ref 3), some (.ref 35), some (.int x2), none], [], 0, 0)) rfl (T_Rules_add (by omega) (by decide) hc ?_)
          show sm_W sm_sh X (sm_C sm_sh X sm_P D) me_48 Q (60, [some (.ref 3), some (.ref 35), some (.int x2), none], [], 0, 0) (I5, J, sm_rf t d)
          refine sm_W.run (sm_C_mono D) 1 (G := True) (fr' := (61, [some (.ref 3), some (.ref 35), some (.int x2), none], [.int (1 : Int32)], 0, 0)) (M' := (I5, J, sm_rf t d)) rfl trivial ?_
          cases h
          exact sm_W.ret (sm_C_mono D) rfl hQ
        · refine sm_W.run (sm_C_mono D) 1 (G := True) (fr' := (55, [some (.ref 3), some (.ref 35), some (.int x2), none], [.int (0 : Int32)], 0, 0)) (M' := (I4, J, sm_rf t d)) rfl trivial ?_
          cases h
          exact sm_W.ret (sm_C_mono D) rfl hQ
      · refine sm_W.runL (sm_C_mono D) 6 (G := True) (e := ((I 3 2) - (I 3 5))) (fr' := fun a6 => (30, [some (.ref 3), some (.ref 35), some (.int x2), some (.int a6)], [], 0, 0)) (M' := fun _ => (I, J, sm_rf t d)) rfl h trivial (fun a6 h => ?_)
        refine sm_W.run (sm_C_mono D) 2 (G := True) (fr' := (if decide (a6 < 0) = true then 36 else 32, [some (.ref 3), some (.ref 35), some (.int x2), some (.int a6)], [], 0, 0)) (M' := (I, J, sm_rf t d)) rfl trivial (sm_W.iteD h (fun hc h => ?_) (fun hc h => ?_))
        · exact sm_W.forget (L' := [some (.ref 3), none, none, none]) ⟨rfl, trivial⟩ (G_Reader_readTerm_36 hD (by decide) hE hDE h hQ)
        · refine sm_W.run (sm_C_mono D) 4 (G := True) (fr' := (if decide (a6 < (I 3 6)) = true then 40 else 36, [some (.ref 3), some (.ref 35), some (.int x2), some (.int a6)], [], 0, 0)) (M' := (I, J, sm_rf t d)) rfl trivial (sm_W.iteD h (fun hc h => ?_) (fun hc h => ?_))
          · refine sm_W.run (sm_C_mono D) 4 (G := True) (fr' := (44, [some (.ref 3), some (.ref 35), some (.int x2), some (.int a6)], [.int ((10000 : Int32) + a6), .ref 35], 0, 0)) (M' := (I, J, sm_rf t d)) rfl trivial ?_
            obtain ⟨I7, hc, h⟩ := sd_q1_go h
            refine sm_W.cal (sm_C_mono D) (y := 52) (as := [.ref 35, .int ((10000 : Int32) + a6)]) (fr' := (45, [some (.ref 3), some (.ref 35), some (.int x2), some (.int a6)], [], 0, 0)) rfl (T_Rules_add (by omega) (by decide) hc ?_)
            show sm_W sm_sh X (sm_C sm_sh X sm_P D) me_48 Q (45, [some (.ref 3), some (.ref 35), some (.int x2), some (.int a6)], [], 0, 0) (I7, J, sm_rf t d)
            refine sm_W.run (sm_C_mono D) 1 (G := True) (fr' := (46, [some (.ref 3), some (.ref 35), some (.int x2), some (.int a6)], [.ref 3], 0, 0)) (M' := (I7, J, sm_rf t d)) rfl trivial ?_
            obtain ⟨I8, hc, h⟩ := sd_q1_go h
            refine sm_W.cal (sm_C_mono D) (y := 29) (as := [.ref 3]) (fr' := (47, [some (.ref 3), some (.ref 35), some (.int x2), some (.int a6)], [], 0, 0)) rfl (T_Reader_step (by omega) hc ?_)
            show sm_W sm_sh X (sm_C sm_sh X sm_P D) me_48 Q (47, [some (.ref 3), some (.ref 35), some (.int x2), some (.int a6)], [], 0, 0) (I8, J, sm_rf t d)
            refine sm_W.run (sm_C_mono D) 1 (G := True) (fr' := (48, [some (.ref 3), some (.ref 35), some (.int x2), some (.int a6)], [.int (1 : Int32)], 0, 0)) (M' := (I8, J, sm_rf t d)) rfl trivial ?_
            cases h
            exact sm_W.ret (sm_C_mono D) rfl hQ
          · exact sm_W.forget (L' := [some (.ref 3), none, none, none]) ⟨rfl, trivial⟩ (G_Reader_readTerm_36 hD (by decide) hE hDE h hQ)
    · refine sm_W.run (sm_C_mono D) 1 (G := True) (fr' := (5, [some (.ref 3), some (.ref 35), some (.int x2), none], [.ref 3], 0, 0)) (M' := (I, J, sm_rf t d)) rfl trivial ?_
      obtain ⟨I9, hc, h⟩ := sd_q1_go h
      refine sm_W.cal (sm_C_mono D) (y := 29) (as := [.ref 3]) (fr' := (6, [some (.ref 3), some (.ref 35), some (.int x2), none], [], 0, 0)) rfl (T_Reader_step (by omega) hc ?_)
      show sm_W sm_sh X (sm_C sm_sh X sm_P D) me_48 Q (6, [some (.ref 3), some (.ref 35), some (.int x2), none], [], 0, 0) (I9, J, sm_rf t d)
      refine sm_W.run (sm_C_mono D) 5 (G := True) (fr' := (11, [some (.ref 3), some (.ref 35), some (.int x2), none], [.int (x2 + (1 : Int32)), .ref 35, .ref 3], 0, 0)) (M' := (I9, J, sm_rf t d)) rfl trivial ?_
      obtain ⟨r10, I11, hc, h⟩ := sd_q2_go h
      refine sm_W.cal (sm_C_mono D) (y := 42) (as := [.ref 3, .ref 35, .int (x2 + (1 : Int32))]) (fr' := (12, [some (.ref 3), some (.ref 35), some (.int x2), none], [], 0, 0)) rfl (sm_C_le (by omega) (hE _ _ _ _ _ _ (by decide) hc ?_))
      show sm_W sm_sh X (sm_C sm_sh X sm_P D) me_48 Q (12, [some (.ref 3), some (.ref 35), some (.int x2), none], [.int r10], 0, 0) (I11, J, sm_rf t d)
      refine sm_W.run (sm_C_mono D) 1 (G := True) (fr' := (if decide (r10 = 0) = true then 19 else 13, [some (.ref 3), some (.ref 35), some (.int x2), none], [], 0, 0)) (M' := (I11, J, sm_rf t d)) rfl trivial (sm_W.iteD h (fun hc h => ?_) (fun hc h => ?_))
      · refine sm_W.run (sm_C_mono D) 1 (G := True) (fr' := (20, [some (.ref 3), some (.ref 35), some (.int x2), none], [.int (0 : Int32)], 0, 0)) (M' := (I11, J, sm_rf t d)) rfl trivial ?_
        cases h
        exact sm_W.ret (sm_C_mono D) rfl hQ
      · refine sm_W.run (sm_C_mono D) 2 (G := True) (fr' := (15, [some (.ref 3), some (.ref 35), some (.int x2), none], [.int (41 : Int32), .ref 3], 0, 0)) (M' := (I11, J, sm_rf t d)) rfl trivial ?_
        obtain ⟨r12, I13, hc, h⟩ := sd_q2_go h
        refine sm_W.cal (sm_C_mono D) (y := 35) (as := [.ref 3, .int (41 : Int32)]) (fr' := (16, [some (.ref 3), some (.ref 35), some (.int x2), none], [], 0, 0)) rfl (T_Reader_readSign (by omega) hc ?_)
        show sm_W sm_sh X (sm_C sm_sh X sm_P D) me_48 Q (16, [some (.ref 3), some (.ref 35), some (.int x2), none], [.int r12], 0, 0) (I13, J, sm_rf t d)
        refine sm_W.run (sm_C_mono D) 1 (G := True) (fr' := (if decide (r12 = 0) = true then 19 else 17, [some (.ref 3), some (.ref 35), some (.int x2), none], [], 0, 0)) (M' := (I13, J, sm_rf t d)) rfl trivial (sm_W.iteD h (fun hc h => ?_) (fun hc h => ?_))
        · refine sm_W.run (sm_C_mono D) 1 (G := True) (fr' := (20, [some (.ref 3), some (.ref 35), some (.int x2), none], [.int (0 : Int32)], 0, 0)) (M' := (I13, J, sm_rf t d)) rfl trivial ?_
          cases h
          exact sm_W.ret (sm_C_mono D) rfl hQ
        · refine sm_W.run (sm_C_mono D) 2 (G := True) (fr' := (20, [some (.ref 3), some (.ref 35), some (.int x2), none], [.int (1 : Int32)], 0, 0)) (M' := (I13, J, sm_rf t d)) rfl trivial ?_
          cases h
          exact sm_W.ret (sm_C_mono D) rfl hQ
  · skip
    refine sm_W.run (sm_C_mono D) 2 (G := True) (fr' := (2, [some (.ref 3), some (.ref 55), some (.int x2), none], [.int (40 : Int32), .ref 3], 0, 0)) (M' := (I, J, sm_rf t d)) rfl trivial ?_
    obtain ⟨r1, hc, h⟩ := sd_q1_go h
    refine sm_W.cal (sm_C_mono D) (y := 30) (as := [.ref 3, .int (40 : Int32)]) (fr' := (3, [some (.ref 3), some (.ref 55), some (.int x2), none], [], 0, 0)) rfl (T_Reader_atSign (by omega) hc ?_)
    show sm_W sm_sh X (sm_C sm_sh X sm_P D) me_48 Q (3, [some (.ref 3), some (.ref 55), some (.int x2), none], [.int r1], 0, 0) (I, J, sm_rf t d)
    refine sm_W.run (sm_C_mono D) 1 (G := True) (fr' := (if decide (r1 = 0) = true then 21 else 4, [some (.ref 3), some (.ref 55), some (.int x2), none], [], 0, 0)) (M' := (I, J, sm_rf t d)) rfl trivial (sm_W.iteD h (fun hc h => ?_) (fun hc h => ?_))
    · refine sm_W.run (sm_C_mono D) 1 (G := True) (fr' := (22, [some (.ref 3), some (.ref 55), some (.int x2), none], [.ref 3], 0, 0)) (M' := (I, J, sm_rf t d)) rfl trivial ?_
      obtain ⟨r2, hc, h⟩ := sd_q1_go h
      refine sm_W.cal (sm_C_mono D) (y := 32) (as := [.ref 3]) (fr' := (23, [some (.ref 3), some (.ref 55), some (.int x2), none], [], 0, 0)) rfl (T_Reader_atWord (by omega) hc ?_)
      show sm_W sm_sh X (sm_C sm_sh X sm_P D) me_48 Q (23, [some (.ref 3), some (.ref 55), some (.int x2), none], [.int r2], 0, 0) (I, J, sm_rf t d)
      refine sm_W.run (sm_C_mono D) 1 (G := True) (fr' := (if decide (r2 = 0) = true then 49 else 24, [some (.ref 3), some (.ref 55), some (.int x2), none], [], 0, 0)) (M' := (I, J, sm_rf t d)) rfl trivial (sm_W.iteD h (fun hc h => ?_) (fun hc h => ?_))
      · refine sm_W.run (sm_C_mono D) 3 (G := True) (fr' := (52, [some (.ref 3), some (.ref 55), some (.int x2), none], [.int (9999 : Int32), .int (0 : Int32), .ref 3], 0, 0)) (M' := (I, J, sm_rf t d)) rfl trivial ?_
        obtain ⟨r3, I4, hc, h⟩ := sd_q2_go h
        refine sm_W.cal (sm_C_mono D) (y := 36) (as := [.ref 3, .int (0 : Int32), .int (9999 : Int32)]) (fr' := (53, [some (.ref 3), some (.ref 55), some (.int x2), none], [], 0, 0)) rfl (T_Reader_readNumber (by omega) hc ?_)
        show sm_W sm_sh X (sm_C sm_sh X sm_P D) me_48 Q (53, [some (.ref 3), some (.ref 55), some (.int x2), none], [.int r3], 0, 0) (I4, J, sm_rf t d)
        refine sm_W.run (sm_C_mono D) 1 (G := True) (fr' := (if decide (¬ r3 = 0) = true then 56 else 54, [some (.ref 3), some (.ref 55), some (.int x2), none], [], 0, 0)) (M' := (I4, J, sm_rf t d)) rfl trivial (sm_W.iteD h (fun hc h => ?_) (fun hc h => ?_))
        · refine sm_W.run (sm_C_mono D) 3 (G := True) (fr' := (59, [some (.ref 3), some (.ref 55), some (.int x2), none], [.int (I4 3 3), .ref 55], 0, 0)) (M' := (I4, J, sm_rf t d)) rfl trivial ?_
          obtain ⟨I5, hc, h⟩ := sd_q1_go h
          refine sm_W.cal (sm_C_mono D) (y := 52) (as := [.ref 55, .int (I4 3 3)]) (fr' := (60, [some (.ref 3), some (.ref 55), some (.int x2), none], [], 0, 0)) rfl (T_Rules_add (by omega) (by decide) hc ?_)
          show sm_W sm_sh X (sm_C sm_sh X sm_P D) me_48 Q (60, [some (.ref 3), some (.ref 55), some (.int x2), none], [], 0, 0) (I5, J, sm_rf t d)
          refine sm_W.run (sm_C_mono D) 1 (G := True) (fr' := (61, [some (.ref 3), some (.ref 55), some (.int x2), none], [.int (1 : Int32)], 0, 0)) (M' := (I5, J, sm_rf t d)) rfl trivial ?_
          cases h
          exact sm_W.ret (sm_C_mono D) rfl hQ
        · refine sm_W.run (sm_C_mono D) 1 (G := True) (fr' := (55, [some (.ref 3), some (.ref 55), some (.int x2), none], [.int (0 : Int32)], 0, 0)) (M' := (I4, J, sm_rf t d)) rfl trivial ?_
          cases h
          exact sm_W.ret (sm_C_mono D) rfl hQ
      · refine sm_W.runL (sm_C_mono D) 6 (G := True) (e := ((I 3 2) - (I 3 5))) (fr' := fun a6 => (30, [some (.ref 3), some (.ref 55), some (.int x2), some (.int a6)], [], 0, 0)) (M' := fun _ => (I, J, sm_rf t d)) rfl h trivial (fun a6 h => ?_)
        refine sm_W.run (sm_C_mono D) 2 (G := True) (fr' := (if decide (a6 < 0) = true then 36 else 32, [some (.ref 3), some (.ref 55), some (.int x2), some (.int a6)], [], 0, 0)) (M' := (I, J, sm_rf t d)) rfl trivial (sm_W.iteD h (fun hc h => ?_) (fun hc h => ?_))
        · exact sm_W.forget (L' := [some (.ref 3), none, none, none]) ⟨rfl, trivial⟩ (G_Reader_readTerm_36 hD (by decide) hE hDE h hQ)
        · refine sm_W.run (sm_C_mono D) 4 (G := True) (fr' := (if decide (a6 < (I 3 6)) = true then 40 else 36, [some (.ref 3), some (.ref 55), some (.int x2), some (.int a6)], [], 0, 0)) (M' := (I, J, sm_rf t d)) rfl trivial (sm_W.iteD h (fun hc h => ?_) (fun hc h => ?_))
          · refine sm_W.run (sm_C_mono D) 4 (G := True) (fr' := (44, [some (.ref 3), some (.ref 55), some (.int x2), some (.int a6)], [.int ((10000 : Int32) + a6), .ref 55], 0, 0)) (M' := (I, J, sm_rf t d)) rfl trivial ?_
            obtain ⟨I7, hc, h⟩ := sd_q1_go h
            refine sm_W.cal (sm_C_mono D) (y := 52) (as := [.ref 55, .int ((10000 : Int32) + a6)]) (fr' := (45, [some (.ref 3), some (.ref 55), some (.int x2), some (.int a6)], [], 0, 0)) rfl (T_Rules_add (by omega) (by decide) hc ?_)
            show sm_W sm_sh X (sm_C sm_sh X sm_P D) me_48 Q (45, [some (.ref 3), some (.ref 55), some (.int x2), some (.int a6)], [], 0, 0) (I7, J, sm_rf t d)
            refine sm_W.run (sm_C_mono D) 1 (G := True) (fr' := (46, [some (.ref 3), some (.ref 55), some (.int x2), some (.int a6)], [.ref 3], 0, 0)) (M' := (I7, J, sm_rf t d)) rfl trivial ?_
            obtain ⟨I8, hc, h⟩ := sd_q1_go h
            refine sm_W.cal (sm_C_mono D) (y := 29) (as := [.ref 3]) (fr' := (47, [some (.ref 3), some (.ref 55), some (.int x2), some (.int a6)], [], 0, 0)) rfl (T_Reader_step (by omega) hc ?_)
            show sm_W sm_sh X (sm_C sm_sh X sm_P D) me_48 Q (47, [some (.ref 3), some (.ref 55), some (.int x2), some (.int a6)], [], 0, 0) (I8, J, sm_rf t d)
            refine sm_W.run (sm_C_mono D) 1 (G := True) (fr' := (48, [some (.ref 3), some (.ref 55), some (.int x2), some (.int a6)], [.int (1 : Int32)], 0, 0)) (M' := (I8, J, sm_rf t d)) rfl trivial ?_
            cases h
            exact sm_W.ret (sm_C_mono D) rfl hQ
          · exact sm_W.forget (L' := [some (.ref 3), none, none, none]) ⟨rfl, trivial⟩ (G_Reader_readTerm_36 hD (by decide) hE hDE h hQ)
    · refine sm_W.run (sm_C_mono D) 1 (G := True) (fr' := (5, [some (.ref 3), some (.ref 55), some (.int x2), none], [.ref 3], 0, 0)) (M' := (I, J, sm_rf t d)) rfl trivial ?_
      obtain ⟨I9, hc, h⟩ := sd_q1_go h
      refine sm_W.cal (sm_C_mono D) (y := 29) (as := [.ref 3]) (fr' := (6, [some (.ref 3), some (.ref 55), some (.int x2), none], [], 0, 0)) rfl (T_Reader_step (by omega) hc ?_)
      show sm_W sm_sh X (sm_C sm_sh X sm_P D) me_48 Q (6, [some (.ref 3), some (.ref 55), some (.int x2), none], [], 0, 0) (I9, J, sm_rf t d)
      refine sm_W.run (sm_C_mono D) 5 (G := True) (fr' := (11, [some (.ref 3), some (.ref 55), some (.int x2), none], [.int (x2 + (1 : Int32)), .ref 55, .ref 3], 0, 0)) (M' := (I9, J, sm_rf t d)) rfl trivial ?_
      obtain ⟨r10, I11, hc, h⟩ := sd_q2_go h
      refine sm_W.cal (sm_C_mono D) (y := 42) (as := [.ref 3, .ref 55, .int (x2 + (1 : Int32))]) (fr' := (12, [some (.ref 3), some (.ref 55), some (.int x2), none], [], 0, 0)) rfl (sm_C_le (by omega) (hE _ _ _ _ _ _ (by decide) hc ?_))
      show sm_W sm_sh X (sm_C sm_sh X sm_P D) me_48 Q (12, [some (.ref 3), some (.ref 55), some (.int x2), none], [.int r10], 0, 0) (I11, J, sm_rf t d)
      refine sm_W.run (sm_C_mono D) 1 (G := True) (fr' := (if decide (r10 = 0) = true then 19 else 13, [some (.ref 3), some (.ref 55), some (.int x2), none], [], 0, 0)) (M' := (I11, J, sm_rf t d)) rfl trivial (sm_W.iteD h (fun hc h => ?_) (fun hc h => ?_))
      · refine sm_W.run (sm_C_mono D) 1 (G := True) (fr' := (20, [some (.ref 3), some (.ref 55), some (.int x2), none], [.int (0 : Int32)], 0, 0)) (M' := (I11, J, sm_rf t d)) rfl trivial ?_
        cases h
        exact sm_W.ret (sm_C_mono D) rfl hQ
      · refine sm_W.run (sm_C_mono D) 2 (G := True) (fr' := (15, [some (.ref 3), some (.ref 55), some (.int x2), none], [.int (41 : Int32), .ref 3], 0, 0)) (M' := (I11, J, sm_rf t d)) rfl trivial ?_
        obtain ⟨r12, I13, hc, h⟩ := sd_q2_go h
        refine sm_W.cal (sm_C_mono D) (y := 35) (as := [.ref 3, .int (41 : Int32)]) (fr' := (16, [some (.ref 3), some (.ref 55), some (.int x2), none], [], 0, 0)) rfl (T_Reader_readSign (by omega) hc ?_)
        show sm_W sm_sh X (sm_C sm_sh X sm_P D) me_48 Q (16, [some (.ref 3), some (.ref 55), some (.int x2), none], [.int r12], 0, 0) (I13, J, sm_rf t d)
        refine sm_W.run (sm_C_mono D) 1 (G := True) (fr' := (if decide (r12 = 0) = true then 19 else 17, [some (.ref 3), some (.ref 55), some (.int x2), none], [], 0, 0)) (M' := (I13, J, sm_rf t d)) rfl trivial (sm_W.iteD h (fun hc h => ?_) (fun hc h => ?_))
        · refine sm_W.run (sm_C_mono D) 1 (G := True) (fr' := (20, [some (.ref 3), some (.ref 55), some (.int x2), none], [.int (0 : Int32)], 0, 0)) (M' := (I13, J, sm_rf t d)) rfl trivial ?_
          cases h
          exact sm_W.ret (sm_C_mono D) rfl hQ
        · refine sm_W.run (sm_C_mono D) 2 (G := True) (fr' := (20, [some (.ref 3), some (.ref 55), some (.int x2), none], [.int (1 : Int32)], 0, 0)) (M' := (I13, J, sm_rf t d)) rfl trivial ?_
          cases h
          exact sm_W.ret (sm_C_mono D) rfl hQ
theorem T_Reader_readTerm {X : Nat × (Nat → Int32)} {t d D DE : Nat} {Q : sm_Q} {I : sm_MI} {J : sm_MJ} {p1 : Nat} {kE : Nat → Int32 → sm_MI → Option (Int32 × sm_MI)} {x2 : Int32} {rz : Int32} {Iz : sm_MI}
    (hD : 4 ≤ D) (hp : (p1 = 35) ∨ (p1 = 55)) (hE : ∀ (r : Nat) (x : Int32) (I : sm_MI) (v : Int32) (I9 : sm_MI) (Q : sm_Q), (r = 35 ∨ r = 55) → kE r x I = some (v, I9) → Q (.inl (some (.int v))) (I9, J, sm_rf t d) → sm_C sm_sh X sm_P DE 42 [.ref 3, .ref r, .int x] (I, J, sm_rf t d) Q) (hDE : DE + 1 ≤ D) (h : F_Reader_readTerm p1 kE x2 I = some (rz, Iz)) (hQ : Q (.inl (some (.int rz))) (Iz, J, sm_rf t d)) : sm_C sm_sh X sm_P D 48 [.ref 3, .ref p1, .int x2] (I, J, sm_rf t d) Q := by
  cases D with
  | zero => omega
  | succ D => exact sm_C.of (me := me_48) (L := [some (.ref 3), some (.ref p1), some (.int x2), none]) rfl rfl rfl (sm_W.forget (L' := [some (.ref 3), some (.ref p1), some (.int x2), none]) ⟨rfl, ⟨rfl, ⟨rfl, trivial⟩⟩⟩ (G_Reader_readTerm (by omega) hp hE (by omega) h hQ))
-- 47 Reader_readProduct
noncomputable def F_Reader_readProduct_27 (p1 : Nat) (kE : Nat → Int32 → sm_MI → Option (Int32 × sm_MI)) (k7 : Int32 → Int32 → Int32 → sm_MI → Option (Int32 × sm_MI)) (x2 : Int32) (x4 : Int32) (s0 : Int32) (I : sm_MI) : Option (Int32 × sm_MI) :=
  sd_q1 (F_Reader_step I) fun I1 =>
  sd_q2 (F_Reader_readTerm p1 kE x2 I1) fun r2 I3 =>
  sd_q1 (F_Rules_add p1 s0 I3) fun I4 =>
  k7 x2 r2 (x4 + (1 : Int32)) I4
noncomputable def F_Reader_readProduct_20 (p1 : Nat) (kE : Nat → Int32 → sm_MI → Option (Int32 × sm_MI)) (k7 : Int32 → Int32 → Int32 → sm_MI → Option (Int32 × sm_MI)) (x2 : Int32) (x4 : Int32) (I : sm_MI) : Option (Int32 × sm_MI) :=
  sd_q1 (F_Reader_atSign (42 : Int32) I) fun r1 =>
  if r1 = 0 then
    F_Reader_readProduct_27 p1 kE k7 x2 x4 (20008 : Int32) I
  else
    F_Reader_readProduct_27 p1 kE k7 x2 x4 (20007 : Int32) I
noncomputable def F_Reader_readProduct_7B (p1 : Nat) (kE : Nat → Int32 → sm_MI → Option (Int32 × sm_MI)) (k7 : Int32 → Int32 → Int32 → sm_MI → Option (Int32 × sm_MI)) (x2 : Int32) (x3 : Int32) (x4 : Int32) (I : sm_MI) : Option (Int32 × sm_MI) :=
  if (700 : Int32) ≤ x4 then
    some ((vp_nar .boolean x3), I)
  else
    if x3 = 0 then
      some ((vp_nar .boolean x3), I)
    else
      sd_q1 (F_Reader_atSign (42 : Int32) I) fun r1 =>
      if ¬ r1 = 0 then
        F_Reader_readProduct_20 p1 kE k7 x2 x4 I
      else
        sd_q1 (F_Reader_atSign (47 : Int32) I) fun r2 =>
        if r2 = 0 then
          some ((vp_nar .boolean x3), I)
        else
          F_Reader_readProduct_20 p1 kE k7 x2 x4 I
noncomputable def F_Reader_readProduct_7 (p1 : Nat) (kE : Nat → Int32 → sm_MI → Option (Int32 × sm_MI)) (n : Nat) : Int32 → Int32 → Int32 → sm_MI → Option (Int32 × sm_MI) :=
  sd_fix (fun k x2 x3 x4 I => F_Reader_readProduct_7B p1 kE k x2 x3 x4 I) (fun _ _ _ _ => none) n
noncomputable def F_Reader_readProduct (p1 : Nat) (kE : Nat → Int32 → sm_MI → Option (Int32 × sm_MI)) (x2 : Int32) (I : sm_MI) : Option (Int32 × sm_MI) :=
  sd_q2 (F_Reader_readTerm p1 kE x2 I) fun r1 I2 =>
  F_Reader_readProduct_7 p1 kE sd_fu x2 r1 (0 : Int32) I2
theorem G_Reader_readProduct_27 {X : Nat × (Nat → Int32)} {t d D DE : Nat} {Q : sm_Q} {I : sm_MI} {J : sm_MJ} {p1 : Nat} {kE : Nat → Int32 → sm_MI → Option (Int32 × sm_MI)} {k7 : Int32 → Int32 → Int32 → sm_MI → Option (Int32 × sm_MI)} {x2 : Int32} {x4 : Int32} {s0 : Int32} {rz : Int32} {Iz : sm_MI}
    (hD : 4 ≤ D) (hp : (p1 = 35) ∨ (p1 = 55)) (hE : ∀ (r : Nat) (x : Int32) (I : sm_MI) (v : Int32) (I9 : sm_MI) (Q : sm_Q), (r = 35 ∨ r = 55) → kE r x I = some (v, I9) → Q (.inl (some (.int v))) (I9, J, sm_rf t d) → sm_C sm_sh X sm_P DE 42 [.ref 3, .ref r, .int x] (I, J, sm_rf t d) Q) (hDE : DE + 1 ≤ D) (h : F_Reader_readProduct_27 p1 kE k7 x2 x4 s0 I = some (rz, Iz)) (hQ : Q (.inl (some (.int rz))) (Iz, J, sm_rf t d)) (hk7 : ∀ (x2 : Int32) (x3 : Int32) (x4 : Int32) (I : sm_MI), k7 x2 x3 x4 I = some (rz, Iz) → sm_W sm_sh X (sm_C sm_sh X sm_P D) me_47 Q (7, [some (.ref 3), some (.ref p1), some (.int x2), some (.int x3), some (.int x4), none], [], 0, 0) (I, J, sm_rf t d)) : sm_W sm_sh X (sm_C sm_sh X sm_P D) me_47 Q (27, [some (.ref 3), some (.ref p1), some (.int x2), none, some (.int x4), none], [.int s0], 0, 0) (I, J, sm_rf t d) := by
  unfold F_Reader_readProduct_27 at h
  rcases hp with rfl | rfl
  · skip
    refine sm_W.run (sm_C_mono D) 2 (G := True) (fr' := (29, [some (.ref 3), some (.ref 35), some (.int x2), none, some (.int x4), some (.int s0)], [.ref 3], 0, 0)) (M' := (I, J, sm_rf t d)) rfl trivial ?_
    obtain ⟨I1, hc, h⟩ := sd_q1_go h
    refine sm_W.cal (sm_C_mono D) (y := 29) (as := [.ref 3]) (fr' := (30, [some (.ref 3), some (.ref 35), some (.int x2), none, some (.int x4), some (.int s0)], [], 0, 0)) rfl (T_Reader_step (by omega) hc ?_)
    show sm_W sm_sh X (sm_C sm_sh X sm_P D) me_47 Q (30, [some (.ref 3), some (.ref 35), some (.int x2), none, some (.int x4), some (.int s0)], [], 0, 0) (I1, J, sm_rf t d)
    refine sm_W.run (sm_C_mono D) 3 (G := True) (fr' := (33, [some (.ref 3), some (.ref 35), some (.int x2), none, some (.int x4), some (.int s0)], [.int x2, .ref 35, .ref 3], 0, 0)) (M' := (I1, J, sm_rf t d)) rfl trivial ?_
    obtain ⟨r2, I3, hc, h⟩ := sd_q2_go h
    refine sm_W.cal (sm_C_mono D) (y := 48) (as := [.ref 3, .ref 35, .int x2]) (fr' := (34, [some (.ref 3), some (.ref 35), some (.int x2), none, some (.int x4), some (.int s0)], [], 0, 0)) rfl (T_Reader_readTerm (by omega) (by decide) hE (by omega) hc ?_)
    show sm_W sm_sh X (sm_C sm_sh X sm_P D) me_47 Q (34, [some (.ref 3), some (.ref 35), some (.int x2), none, some (.int x4), some (.int s0)], [.int r2], 0, 0) (I3, J, sm_rf t d)
    refine sm_W.run (sm_C_mono D) 3 (G := True) (fr' := (37, [some (.ref 3), some (.ref 35), some (.int x2), some (.int r2), some (.int x4), some (.int s0)], [.int s0, .ref 35], 0, 0)) (M' := (I3, J, sm_rf t d)) rfl trivial ?_
    obtain ⟨I4, hc, h⟩ := sd_q1_go h
    refine sm_W.cal (sm_C_mono D) (y := 52) (as := [.ref 35, .int s0]) (fr' := (38, [some (.ref 3), some (.ref 35), some (.int x2), some (.int r2), some (.int x4), some (.int s0)], [], 0, 0)) rfl (T_Rules_add (by omega) (by decide) hc ?_)
    show sm_W sm_sh X (sm_C sm_sh X sm_P D) me_47 Q (38, [some (.ref 3), some (.ref 35), some (.int x2), some (.int r2), some (.int x4), some (.int s0)], [], 0, 0) (I4, J, sm_rf t d)
    refine sm_W.run (sm_C_mono D) 2 (G := True) (fr' := (7, [some (.ref 3), some (.ref 35), some (.int x2), some (.int r2), some (.int (x4 + (1 : Int32))), some (.int s0)], [], 0, 0)) (M' := (I4, J, sm_rf t d)) rfl trivial ?_
    exact sm_W.forget (L' := [some (.ref 3), some (.ref 35), some (.int x2), some (.int r2), some (.int (x4 + (1 : Int32))), none]) ⟨rfl, ⟨rfl, ⟨rfl, ⟨rfl, ⟨rfl, trivial⟩⟩⟩⟩⟩ (hk7 _ _ _ _ h)
  · skip
    refine sm_W.run (sm_C_mono D) 2 (G := True) (fr' := (29, [some (.ref 3), some (.ref 55), some (.int x2), none, some (.int x4), some (.int s0)], [.ref 3], 0, 0)) (M' := (I, J, sm_rf t d)) rfl trivial ?_
    obtain ⟨I1, hc, h⟩ := sd_q1_go h
    refine sm_W.cal (sm_C_mono D) (y := 29) (as := [.ref 3]) (fr' := (30, [some (.ref 3), some (.ref 55), some (.int x2), none, some (.int x4), some (.int s0)], [], 0, 0)) rfl (T_Reader_step (by omega) hc ?_)
    show sm_W sm_sh X (sm_C sm_sh X sm_P D) me_47 Q (30, [some (.ref 3), some (.ref 55), some (.int x2), none, some (.int x4), some (.int s0)], [], 0, 0) (I1, J, sm_rf t d)
    refine sm_W.run (sm_C_mono D) 3 (G := True) (fr' := (33, [some (.ref 3), some (.ref 55), some (.int x2), none, some (.int x4), some (.int s0)], [.int x2, .ref 55, .ref 3], 0, 0)) (M' := (I1, J, sm_rf t d)) rfl trivial ?_
    obtain ⟨r2, I3, hc, h⟩ := sd_q2_go h
    refine sm_W.cal (sm_C_mono D) (y := 48) (as := [.ref 3, .ref 55, .int x2]) (fr' := (34, [some (.ref 3), some (.ref 55), some (.int x2), none, some (.int x4), some (.int s0)], [], 0, 0)) rfl (T_Reader_readTerm (by omega) (by decide) hE (by omega) hc ?_)
    show sm_W sm_sh X (sm_C sm_sh X sm_P D) me_47 Q (34, [some (.ref 3), some (.ref 55), some (.int x2), none, some (.int x4), some (.int s0)], [.int r2], 0, 0) (I3, J, sm_rf t d)
    refine sm_W.run (sm_C_mono D) 3 (G := True) (fr' := (37, [some (.ref 3), some (.ref 55), some (.int x2), some (.int r2), some (.int x4), some (.int s0)], [.int s0, .ref 55], 0, 0)) (M' := (I3, J, sm_rf t d)) rfl trivial ?_
    obtain ⟨I4, hc, h⟩ := sd_q1_go h
    refine sm_W.cal (sm_C_mono D) (y := 52) (as := [.ref 55, .int s0]) (fr' := (38, [some (.ref 3), some (.ref 55), some (.int x2), some (.int r2), some (.int x4), some (.int s0)], [], 0, 0)) rfl (T_Rules_add (by omega) (by decide) hc ?_)
    show sm_W sm_sh X (sm_C sm_sh X sm_P D) me_47 Q (38, [some (.ref 3), some (.ref 55), some (.int x2), some (.int r2), some (.int x4), some (.int s0)], [], 0, 0) (I4, J, sm_rf t d)
    refine sm_W.run (sm_C_mono D) 2 (G := True) (fr' := (7, [some (.ref 3), some (.ref 55), some (.int x2), some (.int r2), some (.int (x4 + (1 : Int32))), some (.int s0)], [], 0, 0)) (M' := (I4, J, sm_rf t d)) rfl trivial ?_
    exact sm_W.forget (L' := [some (.ref 3), some (.ref 55), some (.int x2), some (.int r2), some (.int (x4 + (1 : Int32))), none]) ⟨rfl, ⟨rfl, ⟨rfl, ⟨rfl, ⟨rfl, trivial⟩⟩⟩⟩⟩ (hk7 _ _ _ _ h)
theorem G_Reader_readProduct_20 {X : Nat × (Nat → Int32)} {t d D DE : Nat} {Q : sm_Q} {I : sm_MI} {J : sm_MJ} {p1 : Nat} {kE : Nat → Int32 → sm_MI → Option (Int32 × sm_MI)} {k7 : Int32 → Int32 → Int32 → sm_MI → Option (Int32 × sm_MI)} {x2 : Int32} {x4 : Int32} {rz : Int32} {Iz : sm_MI}
    (hD : 4 ≤ D) (hp : (p1 = 35) ∨ (p1 = 55)) (hE : ∀ (r : Nat) (x : Int32) (I : sm_MI) (v : Int32) (I9 : sm_MI) (Q : sm_Q), (r = 35 ∨ r = 55) → kE r x I = some (v, I9) → Q (.inl (some (.int v))) (I9, J, sm_rf t d) → sm_C sm_sh X sm_P DE 42 [.ref 3, .ref r, .int x] (I, J, sm_rf t d) Q) (hDE : DE + 1 ≤ D) (h : F_Reader_readProduct_20 p1 kE k7 x2 x4 I = some (rz, Iz)) (hQ : Q (.inl (some (.int rz))) (Iz, J, sm_rf t d)) (hk7 : ∀ (x2 : Int32) (x3 : Int32) (x4 : Int32) (I : sm_MI), k7 x2 x3 x4 I = some (rz, Iz) → sm_W sm_sh X (sm_C sm_sh X sm_P D) me_47 Q (7, [some (.ref 3), some (.ref p1), some (.int x2), some (.int x3), some (.int x4), none], [], 0, 0) (I, J, sm_rf t d)) : sm_W sm_sh X (sm_C sm_sh X sm_P D) me_47 Q (20, [some (.ref 3), some (.ref p1), some (.int x2), none, some (.int x4), none], [], 0, 0) (I, J, sm_rf t d) := by
  unfold F_Reader_readProduct_20 at h
  rcases hp with rfl | rfl
  · skip
    refine sm_W.run (sm_C_mono D) 2 (G := True) (fr' := (22, [some (.ref 3), some (.ref 35), some (.int x2), none, some (.int x4), none], [.int (42 : Int32), .ref 3], 0, 0)) (M' := (I, J, sm_rf t d)) rfl trivial ?_
    obtain ⟨r1, hc, h⟩ := sd_q1_go h
    refine sm_W.cal (sm_C_mono D) (y := 30) (as := [.ref 3, .int (42 : Int32)]) (fr' := (23, [some (.ref 3), some (.ref 35), some (.int x2), none, some (.int x4), none], [], 0, 0)) rfl (T_Reader_atSign (by omega) hc ?_)
    show sm_W sm_sh X (sm_C sm_sh X sm_P D) me_47 Q (23, [some (.ref 3), some (.ref 35), some (.int x2), none, some (.int x4), none], [.int r1], 0, 0) (I, J, sm_rf t d)
    refine sm_W.run (sm_C_mono D) 1 (G := True) (fr' := (if decide (r1 = 0) = true then 26 else 24, [some (.ref 3), some (.ref 35), some (.int x2), none, some (.int x4), none], [], 0, 0)) (M' := (I, J, sm_rf t d)) rfl trivial (sm_W.iteD h (fun hc h => ?_) (fun hc h => ?_))
    · refine sm_W.run (sm_C_mono D) 1 (G := True) (fr' := (27, [some (.ref 3), some (.ref 35), some (.int x2), none, some (.int x4), none], [.int (20008 : Int32)], 0, 0)) (M' := (I, J, sm_rf t d)) rfl trivial ?_
      exact (G_Reader_readProduct_27 hD (by decide) hE hDE h hQ hk7)
    · refine sm_W.run (sm_C_mono D) 2 (G := True) (fr' := (27, [some (.ref 3), some (.ref 35), some (.int x2), none, some (.int x4), none], [.int (20007 : Int32)], 0, 0)) (M' := (I, J, sm_rf t d)) rfl trivial ?_
      exact (G_Reader_readProduct_27 hD (by decide) hE hDE h hQ hk7)
  · skip
    refine sm_W.run (sm_C_mono D) 2 (G := True) (fr' := (22, [some (.ref 3), some (.ref 55), some (.int x2), none, some (.int x4), none], [.int (42 : Int32), .ref 3], 0, 0)) (M' := (I, J, sm_rf t d)) rfl trivial ?_
    obtain ⟨r1, hc, h⟩ := sd_q1_go h
    refine sm_W.cal (sm_C_mono D) (y := 30) (as := [.ref 3, .int (42 : Int32)]) (fr' := (23, [some (.ref 3), some (.ref 55), some (.int x2), none, some (.int x4), none], [], 0, 0)) rfl (T_Reader_atSign (by omega) hc ?_)
    show sm_W sm_sh X (sm_C sm_sh X sm_P D) me_47 Q (23, [some (.ref 3), some (.ref 55), some (.int x2), none, some (.int x4), none], [.int r1], 0, 0) (I, J, sm_rf t d)
    refine sm_W.run (sm_C_mono D) 1 (G := True) (fr' := (if decide (r1 = 0) = true then 26 else 24, [some (.ref 3), some (.ref 55), some (.int x2), none, some (.int x4), none], [], 0, 0)) (M' := (I, J, sm_rf t d)) rfl trivial (sm_W.iteD h (fun hc h => ?_) (fun hc h => ?_))
    · refine sm_W.run (sm_C_mono D) 1 (G := True) (fr' := (27, [some (.ref 3), some (.ref 55), some (.int x2), none, some (.int x4), none], [.int (20008 : Int32)], 0, 0)) (M' := (I, J, sm_rf t d)) rfl trivial ?_
      exact (G_Reader_readProduct_27 hD (by decide) hE hDE h hQ hk7)
    · refine sm_W.run (sm_C_mono D) 2 (G := True) (fr' := (27, [some (.ref 3), some (.ref 55), some (.int x2), none, some (.int x4), none], [.int (20007 : Int32)], 0, 0)) (M' := (I, J, sm_rf t d)) rfl trivial ?_
      exact (G_Reader_readProduct_27 hD (by decide) hE hDE h hQ hk7)
theorem G_Reader_readProduct_7B {X : Nat × (Nat → Int32)} {t d D DE : Nat} {Q : sm_Q} {I : sm_MI} {J : sm_MJ} {p1 : Nat} {kE : Nat → Int32 → sm_MI → Option (Int32 × sm_MI)} {k7 : Int32 → Int32 → Int32 → sm_MI → Option (Int32 × sm_MI)} {x2 : Int32} {x3 : Int32} {x4 : Int32} {rz : Int32} {Iz : sm_MI}
    (hD : 4 ≤ D) (hp : (p1 = 35) ∨ (p1 = 55)) (hE : ∀ (r : Nat) (x : Int32) (I : sm_MI) (v : Int32) (I9 : sm_MI) (Q : sm_Q), (r = 35 ∨ r = 55) → kE r x I = some (v, I9) → Q (.inl (some (.int v))) (I9, J, sm_rf t d) → sm_C sm_sh X sm_P DE 42 [.ref 3, .ref r, .int x] (I, J, sm_rf t d) Q) (hDE : DE + 1 ≤ D) (h : F_Reader_readProduct_7B p1 kE k7 x2 x3 x4 I = some (rz, Iz)) (hQ : Q (.inl (some (.int rz))) (Iz, J, sm_rf t d)) (hk7 : ∀ (x2 : Int32) (x3 : Int32) (x4 : Int32) (I : sm_MI), k7 x2 x3 x4 I = some (rz, Iz) → sm_W sm_sh X (sm_C sm_sh X sm_P D) me_47 Q (7, [some (.ref 3), some (.ref p1), some (.int x2), some (.int x3), some (.int x4), none], [], 0, 0) (I, J, sm_rf t d)) : sm_W sm_sh X (sm_C sm_sh X sm_P D) me_47 Q (7, [some (.ref 3), some (.ref p1), some (.int x2), some (.int x3), some (.int x4), none], [], 0, 0) (I, J, sm_rf t d) := by
  unfold F_Reader_readProduct_7B at h
  rcases hp with rfl | rfl
  · skip
    refine sm_W.run (sm_C_mono D) 3 (G := True) (fr' := (if decide ((700 : Int32) ≤ x4) = true then 40 else 10, [some (.ref 3), some (.ref 35), some (.int x2), some (.int x3), some (.int x4), none], [], 0, 0)) (M' := (I, J, sm_rf t d)) rfl trivial (sm_W.iteD h (fun hc h => ?_) (fun hc h => ?_))
    · refine sm_W.run (sm_C_mono D) 1 (G := True) (fr' := (41, [some (.ref 3), some (.ref 35), some (.int x2), some (.int x3), some (.int x4), none], [.int x3], 0, 0)) (M' := (I, J, sm_rf t d)) rfl trivial ?_
      cases h
      exact sm_W.ret (sm_C_mono D) rfl hQ
    · refine sm_W.run (sm_C_mono D) 2 (G := True) (fr' := (if decide (x3 = 0) = true then 40 else 12, [some (.ref 3), some (.ref 35), some (.int x2), some (.int x3), some (.int x4), none], [], 0, 0)) (M' := (I, J, sm_rf t d)) rfl trivial (sm_W.iteD h (fun hc h => ?_) (fun hc h => ?_))
      · refine sm_W.run (sm_C_mono D) 1 (G := True) (fr' := (41, [some (.ref 3), some (.ref 35), some (.int x2), some (.int x3), some (.int x4), none], [.int x3], 0, 0)) (M' := (I, J, sm_rf t d)) rfl trivial ?_
        cases h
        exact sm_W.ret (sm_C_mono D) rfl hQ
      · refine sm_W.run (sm_C_mono D) 2 (G := True) (fr' := (14, [some (.ref 3), some (.ref 35), some (.int x2), some (.int x3), some (.int x4), none], [.int (42 : Int32), .ref 3], 0, 0)) (M' := (I, J, sm_rf t d)) rfl trivial ?_
        obtain ⟨r1, hc, h⟩ := sd_q1_go h
        refine sm_W.cal (sm_C_mono D) (y := 30) (as := [.ref 3, .int (42 : Int32)]) (fr' := (15, [some (.ref 3), some (.ref 35), some (.int x2), some (.int x3), some (.int x4), none], [], 0, 0)) rfl (T_Reader_atSign (by omega) hc ?_)
        show sm_W sm_sh X (sm_C sm_sh X sm_P D) me_47 Q (15, [some (.ref 3), some (.ref 35), some (.int x2), some (.int x3), some (.int x4), none], [.int r1], 0, 0) (I, J, sm_rf t d)
        refine sm_W.run (sm_C_mono D) 1 (G := True) (fr' := (if decide (¬ r1 = 0) = true then 20 else 16, [some (.ref 3), some (.ref 35), some (.int x2), some (.int x3), some (.int x4), none], [], 0, 0)) (M' := (I, J, sm_rf t d)) rfl trivial (sm_W.iteD h (fun hc h => ?_) (fun hc h => ?_))
        · exact sm_W.forget (L' := [some (.ref 3), some (.ref 35), some (.int x2), none, some (.int x4), none]) ⟨rfl, ⟨rfl, ⟨rfl, ⟨rfl, trivial⟩⟩⟩⟩ (G_Reader_readProduct_20 hD (by decide) hE hDE h hQ hk7)
        · refine sm_W.run (sm_C_mono D) 2 (G := True) (fr' := (18, [some (.ref 3), some (.ref 35), some (.int x2), some (.int x3), some (.int x4), none], [.int (47 : Int32), .ref 3], 0, 0)) (M' := (I, J, sm_rf t d)) rfl trivial ?_
          obtain ⟨r2, hc, h⟩ := sd_q1_go h
          refine sm_W.cal (sm_C_mono D) (y := 30) (as := [.ref 3, .int (47 : Int32)]) (fr' := (19, [some (.ref 3), some (.ref 35), some (.int x2), some (.int x3), some (.int x4), none], [], 0, 0)) rfl (T_Reader_atSign (by omega) hc ?_)
          show sm_W sm_sh X (sm_C sm_sh X sm_P D) me_47 Q (19, [some (.ref 3), some (.ref 35), some (.int x2), some (.int x3), some (.int x4), none], [.int r2], 0, 0) (I, J, sm_rf t d)
          refine sm_W.run (sm_C_mono D) 1 (G := True) (fr' := (if decide (r2 = 0) = true then 40 else 20, [some (.ref 3), some (.ref 35), some (.int x2), some (.int x3), some (.int x4), none], [], 0, 0)) (M' := (I, J, sm_rf t d)) rfl trivial (sm_W.iteD h (fun hc h => ?_) (fun hc h => ?_))
          · refine sm_W.run (sm_C_mono D) 1 (G := True) (fr' := (41, [some (.ref 3), some (.ref 35), some (.int x2), some (.int x3), some (.int x4), none], [.int x3], 0, 0)) (M' := (I, J, sm_rf t d)) rfl trivial ?_
            cases h
            exact sm_W.ret (sm_C_mono D) rfl hQ
          · exact sm_W.forget (L' := [some (.ref 3), some (.ref 35), some (.int x2), none, some (.int x4), none]) ⟨rfl, ⟨rfl, ⟨rfl, ⟨rfl, trivial⟩⟩⟩⟩ (G_Reader_readProduct_20 hD (by decide) hE hDE h hQ hk7)
  · skip
    refine sm_W.run (sm_C_mono D) 3 (G := True) (fr' := (if decide ((700 : Int32) ≤ x4) = true then 40 else 10, [some (.ref 3), some (.ref 55), some (.int x2), some (.int x3), some (.int x4), none], [], 0, 0)) (M' := (I, J, sm_rf t d)) rfl trivial (sm_W.iteD h (fun hc h => ?_) (fun hc h => ?_))
    · refine sm_W.run (sm_C_mono D) 1 (G := True) (fr' := (41, [some (.ref 3), some (.ref 55), some (.int x2), some (.int x3), some (.int x4), none], [.int x3], 0, 0)) (M' := (I, J, sm_rf t d)) rfl trivial ?_
      cases h
      exact sm_W.ret (sm_C_mono D) rfl hQ
    · refine sm_W.run (sm_C_mono D) 2 (G := True) (fr' := (if decide (x3 = 0) = true then 40 else 12, [some (.ref 3), some (.ref 55), some (.int x2), some (.int x3), some (.int x4), none], [], 0, 0)) (M' := (I, J, sm_rf t d)) rfl trivial (sm_W.iteD h (fun hc h => ?_) (fun hc h => ?_))
      · refine sm_W.run (sm_C_mono D) 1 (G := True) (fr' := (41, [some (.ref 3), some (.ref 55), some (.int x2), some (.int x3), some (.int x4), none], [.int x3], 0, 0)) (M' := (I, J, sm_rf t d)) rfl trivial ?_
        cases h
        exact sm_W.ret (sm_C_mono D) rfl hQ
      · refine sm_W.run (sm_C_mono D) 2 (G := True) (fr' := (14, [some (.ref 3), some (.ref 55), some (.int x2), some (.int x3), some (.int x4), none], [.int (42 : Int32), .ref 3], 0, 0)) (M' := (I, J, sm_rf t d)) rfl trivial ?_
        obtain ⟨r1, hc, h⟩ := sd_q1_go h
        refine sm_W.cal (sm_C_mono D) (y := 30) (as := [.ref 3, .int (42 : Int32)]) (fr' := (15, [some (.ref 3), some (.ref 55), some (.int x2), some (.int x3), some (.int x4), none], [], 0, 0)) rfl (T_Reader_atSign (by omega) hc ?_)
        show sm_W sm_sh X (sm_C sm_sh X sm_P D) me_47 Q (15, [some (.ref 3), some (.ref 55), some (.int x2), some (.int x3), some (.int x4), none], [.int r1], 0, 0) (I, J, sm_rf t d)
        refine sm_W.run (sm_C_mono D) 1 (G := True) (fr' := (if decide (¬ r1 = 0) = true then 20 else 16, [some (.ref 3), some (.ref 55), some (.int x2), some (.int x3), some (.int x4), none], [], 0, 0)) (M' := (I, J, sm_rf t d)) rfl trivial (sm_W.iteD h (fun hc h => ?_) (fun hc h => ?_))
        · exact sm_W.forget (L' := [some (.ref 3), some (.ref 55), some (.int x2), none, some (.int x4), none]) ⟨rfl, ⟨rfl, ⟨rfl, ⟨rfl, trivial⟩⟩⟩⟩ (G_Reader_readProduct_20 hD (by decide) hE hDE h hQ hk7)
        · refine sm_W.run (sm_C_mono D) 2 (G := True) (fr' := (18, [some (.ref 3), some (.ref 55), some (.int x2), some (.int x3), some (.int x4), none], [.int (47 : Int32), .ref 3], 0, 0)) (M' := (I, J, sm_rf t d)) rfl trivial ?_
          obtain ⟨r2, hc, h⟩ := sd_q1_go h
          refine sm_W.cal (sm_C_mono D) (y := 30) (as := [.ref 3, .int (47 : Int32)]) (fr' := (19, [some (.ref 3), some (.ref 55), some (.int x2), some (.int x3), some (.int x4), none], [], 0, 0)) rfl (T_Reader_atSign (by omega) hc ?_)
          show sm_W sm_sh X (sm_C sm_sh X sm_P D) me_47 Q (19, [some (.ref 3), some (.ref 55), some (.int x2), some (.int x3), some (.int x4), none], [.int r2], 0, 0) (I, J, sm_rf t d)
          refine sm_W.run (sm_C_mono D) 1 (G := True) (fr' := (if decide (r2 = 0) = true then 40 else 20, [some (.ref 3), some (.ref 55), some (.int x2), some (.int x3), some (.int x4), none], [], 0, 0)) (M' := (I, J, sm_rf t d)) rfl trivial (sm_W.iteD h (fun hc h => ?_) (fun hc h => ?_))
          · refine sm_W.run (sm_C_mono D) 1 (G := True) (fr' := (41, [some (.ref 3), some (.ref 55), some (.int x2), some (.int x3), some (.int x4), none], [.int x3], 0, 0)) (M' := (I, J, sm_rf t d)) rfl trivial ?_
            cases h
            exact sm_W.ret (sm_C_mono D) rfl hQ
          · exact sm_W.forget (L' := [some (.ref 3), some (.ref 55), some (.int x2), none, some (.int x4), none]) ⟨rfl, ⟨rfl, ⟨rfl, ⟨rfl, trivial⟩⟩⟩⟩ (G_Reader_readProduct_20 hD (by decide) hE hDE h hQ hk7)
theorem G_Reader_readProduct_7 {X : Nat × (Nat → Int32)} {t d D DE : Nat} {Q : sm_Q} {J : sm_MJ} {p1 : Nat} {kE : Nat → Int32 → sm_MI → Option (Int32 × sm_MI)} {rz : Int32} {Iz : sm_MI}
    (hD : 4 ≤ D) (hp : (p1 = 35) ∨ (p1 = 55)) (hE : ∀ (r : Nat) (x : Int32) (I : sm_MI) (v : Int32) (I9 : sm_MI) (Q : sm_Q), (r = 35 ∨ r = 55) → kE r x I = some (v, I9) → Q (.inl (some (.int v))) (I9, J, sm_rf t d) → sm_C sm_sh X sm_P DE 42 [.ref 3, .ref r, .int x] (I, J, sm_rf t d) Q) (hDE : DE + 1 ≤ D) (hQ : Q (.inl (some (.int rz))) (Iz, J, sm_rf t d))  : ∀ (n : Nat) (x2 : Int32) (x3 : Int32) (x4 : Int32) (I : sm_MI), F_Reader_readProduct_7 p1 kE n x2 x3 x4 I = some (rz, Iz) → sm_W sm_sh X (sm_C sm_sh X sm_P D) me_47 Q (7, [some (.ref 3), some (.ref p1), some (.int x2), some (.int x3), some (.int x4), none], [], 0, 0) (I, J, sm_rf t d) := by
  intro n
  induction n with
  | zero => intro x2 x3 x4 I h; cases (show (none : Option (Int32 × sm_MI)) = some (rz, Iz) from h)
  | succ n ih => intro x2 x3 x4 I h; exact G_Reader_readProduct_7B hD hp hE hDE (show F_Reader_readProduct_7B p1 kE (F_Reader_readProduct_7 p1 kE n) x2 x3 x4 I = some (rz, Iz) from h) hQ  ih
theorem G_Reader_readProduct {X : Nat × (Nat → Int32)} {t d D DE : Nat} {Q : sm_Q} {I : sm_MI} {J : sm_MJ} {p1 : Nat} {kE : Nat → Int32 → sm_MI → Option (Int32 × sm_MI)} {x2 : Int32} {rz : Int32} {Iz : sm_MI}
    (hD : 4 ≤ D) (hp : (p1 = 35) ∨ (p1 = 55)) (hE : ∀ (r : Nat) (x : Int32) (I : sm_MI) (v : Int32) (I9 : sm_MI) (Q : sm_Q), (r = 35 ∨ r = 55) → kE r x I = some (v, I9) → Q (.inl (some (.int v))) (I9, J, sm_rf t d) → sm_C sm_sh X sm_P DE 42 [.ref 3, .ref r, .int x] (I, J, sm_rf t d) Q) (hDE : DE + 1 ≤ D) (h : F_Reader_readProduct p1 kE x2 I = some (rz, Iz)) (hQ : Q (.inl (some (.int rz))) (Iz, J, sm_rf t d))  : sm_W sm_sh X (sm_C sm_sh X sm_P D) me_47 Q (0, [some (.ref 3), some (.ref p1), some (.int x2), none, none, none], [], 0, 0) (I, J, sm_rf t d) := by
  unfold F_Reader_readProduct at h
  rcases hp with rfl | rfl
  · skip
    refine sm_W.run (sm_C_mono D) 3 (G := True) (fr' := (3, [some (.ref 3), some (.ref 35), some (.int x2), none, none, none], [.int x2, .ref 35, .ref 3], 0, 0)) (M' := (I, J, sm_rf t d)) rfl trivial ?_
    obtain ⟨r1, I2, hc, h⟩ := sd_q2_go h
    refine sm_W.cal (sm_C_mono D) (y := 48) (as := [.ref 3, .ref 35, .int x2]) (fr' := (4, [some (.ref 3), some (.ref 35), some (.int x2), none, none, none], [], 0, 0)) rfl (T_Reader_readTerm (by omega) (by decide) hE (by omega) hc ?_)
    show sm_W sm_sh X (sm_C sm_sh X sm_P D) me_47 Q (4, [some (.ref 3), some (.ref 35), some (.int x2), none, none, none], [.int r1], 0, 0) (I2, J, sm_rf t d)
    refine sm_W.run (sm_C_mono D) 3 (G := True) (fr' := (7, [some (.ref 3), some (.ref 35), some (.int x2), some (.int r1), some (.int (0 : Int32)), none], [], 0, 0)) (M' := (I2, J, sm_rf t d)) rfl trivial ?_
    exact (G_Reader_readProduct_7 hD (by decide) hE hDE hQ sd_fu _ _ _ _ h)
  · skip
    refine sm_W.run (sm_C_mono D) 3 (G := True) (fr' := (3, [some (.ref 3), some (.ref 55), some (.int x2), none, none, none], [.int x2, .ref 55, .ref 3], 0, 0)) (M' := (I, J, sm_rf t d)) rfl trivial ?_
    obtain ⟨r1, I2, hc, h⟩ := sd_q2_go h
    refine sm_W.cal (sm_C_mono D) (y := 48) (as := [.ref 3, .ref 55, .int x2]) (fr' := (4, [some (.ref 3), some (.ref 55), some (.int x2), none, none, none], [], 0, 0)) rfl (T_Reader_readTerm (by omega) (by decide) hE (by omega) hc ?_)
    show sm_W sm_sh X (sm_C sm_sh X sm_P D) me_47 Q (4, [some (.ref 3), some (.ref 55), some (.int x2), none, none, none], [.int r1], 0, 0) (I2, J, sm_rf t d)
    refine sm_W.run (sm_C_mono D) 3 (G := True) (fr' := (7, [some (.ref 3), some (.ref 55), some (.int x2), some (.int r1), some (.int (0 : Int32)), none], [], 0, 0)) (M' := (I2, J, sm_rf t d)) rfl trivial ?_
    exact (G_Reader_readProduct_7 hD (by decide) hE hDE hQ sd_fu _ _ _ _ h)
theorem T_Reader_readProduct {X : Nat × (Nat → Int32)} {t d D DE : Nat} {Q : sm_Q} {I : sm_MI} {J : sm_MJ} {p1 : Nat} {kE : Nat → Int32 → sm_MI → Option (Int32 × sm_MI)} {x2 : Int32} {rz : Int32} {Iz : sm_MI}
    (hD : 5 ≤ D) (hp : (p1 = 35) ∨ (p1 = 55)) (hE : ∀ (r : Nat) (x : Int32) (I : sm_MI) (v : Int32) (I9 : sm_MI) (Q : sm_Q), (r = 35 ∨ r = 55) → kE r x I = some (v, I9) → Q (.inl (some (.int v))) (I9, J, sm_rf t d) → sm_C sm_sh X sm_P DE 42 [.ref 3, .ref r, .int x] (I, J, sm_rf t d) Q) (hDE : DE + 2 ≤ D) (h : F_Reader_readProduct p1 kE x2 I = some (rz, Iz)) (hQ : Q (.inl (some (.int rz))) (Iz, J, sm_rf t d)) : sm_C sm_sh X sm_P D 47 [.ref 3, .ref p1, .int x2] (I, J, sm_rf t d) Q := by
  cases D with
  | zero => omega
  | succ D => exact sm_C.of (me := me_47) (L := [some (.ref 3), some (.ref p1), some (.int x2), none, none, none]) rfl rfl rfl (sm_W.forget (L' := [some (.ref 3), some (.ref p1), some (.int x2), none, none, none]) ⟨rfl, ⟨rfl, ⟨rfl, trivial⟩⟩⟩ (G_Reader_readProduct (by omega) hp hE (by omega) h hQ))
-- 46 Reader_readSum
noncomputable def F_Reader_readSum_27 (p1 : Nat) (kE : Nat → Int32 → sm_MI → Option (Int32 × sm_MI)) (k7 : Int32 → Int32 → Int32 → sm_MI → Option (Int32 × sm_MI)) (x2 : Int32) (x4 : Int32) (s0 : Int32) (I : sm_MI) : Option (Int32 × sm_MI) :=
  sd_q1 (F_Reader_step I) fun I1 =>
  sd_q2 (F_Reader_readProduct p1 kE x2 I1) fun r2 I3 =>
  sd_q1 (F_Rules_add p1 s0 I3) fun I4 =>
  k7 x2 r2 (x4 + (1 : Int32)) I4
noncomputable def F_Reader_readSum_20 (p1 : Nat) (kE : Nat → Int32 → sm_MI → Option (Int32 × sm_MI)) (k7 : Int32 → Int32 → Int32 → sm_MI → Option (Int32 × sm_MI)) (x2 : Int32) (x4 : Int32) (I : sm_MI) : Option (Int32 × sm_MI) :=
  sd_q1 (F_Reader_atSign (43 : Int32) I) fun r1 =>
  if r1 = 0 then
    F_Reader_readSum_27 p1 kE k7 x2 x4 (20006 : Int32) I
  else
    F_Reader_readSum_27 p1 kE k7 x2 x4 (20005 : Int32) I
noncomputable def F_Reader_readSum_7B (p1 : Nat) (kE : Nat → Int32 → sm_MI → Option (Int32 × sm_MI)) (k7 : Int32 → Int32 → Int32 → sm_MI → Option (Int32 × sm_MI)) (x2 : Int32) (x3 : Int32) (x4 : Int32) (I : sm_MI) : Option (Int32 × sm_MI) :=
  if (700 : Int32) ≤ x4 then
    some ((vp_nar .boolean x3), I)
  else
    if x3 = 0 then
      some ((vp_nar .boolean x3), I)
    else
      sd_q1 (F_Reader_atSign (43 : Int32) I) fun r1 =>
      if ¬ r1 = 0 then
        F_Reader_readSum_20 p1 kE k7 x2 x4 I
      else
        sd_q1 (F_Reader_atSign (45 : Int32) I) fun r2 =>
        if r2 = 0 then
          some ((vp_nar .boolean x3), I)
        else
          F_Reader_readSum_20 p1 kE k7 x2 x4 I
noncomputable def F_Reader_readSum_7 (p1 : Nat) (kE : Nat → Int32 → sm_MI → Option (Int32 × sm_MI)) (n : Nat) : Int32 → Int32 → Int32 → sm_MI → Option (Int32 × sm_MI) :=
  sd_fix (fun k x2 x3 x4 I => F_Reader_readSum_7B p1 kE k x2 x3 x4 I) (fun _ _ _ _ => none) n
noncomputable def F_Reader_readSum (p1 : Nat) (kE : Nat → Int32 → sm_MI → Option (Int32 × sm_MI)) (x2 : Int32) (I : sm_MI) : Option (Int32 × sm_MI) :=
  sd_q2 (F_Reader_readProduct p1 kE x2 I) fun r1 I2 =>
  F_Reader_readSum_7 p1 kE sd_fu x2 r1 (0 : Int32) I2
theorem G_Reader_readSum_27 {X : Nat × (Nat → Int32)} {t d D DE : Nat} {Q : sm_Q} {I : sm_MI} {J : sm_MJ} {p1 : Nat} {kE : Nat → Int32 → sm_MI → Option (Int32 × sm_MI)} {k7 : Int32 → Int32 → Int32 → sm_MI → Option (Int32 × sm_MI)} {x2 : Int32} {x4 : Int32} {s0 : Int32} {rz : Int32} {Iz : sm_MI}
    (hD : 5 ≤ D) (hp : (p1 = 35) ∨ (p1 = 55)) (hE : ∀ (r : Nat) (x : Int32) (I : sm_MI) (v : Int32) (I9 : sm_MI) (Q : sm_Q), (r = 35 ∨ r = 55) → kE r x I = some (v, I9) → Q (.inl (some (.int v))) (I9, J, sm_rf t d) → sm_C sm_sh X sm_P DE 42 [.ref 3, .ref r, .int x] (I, J, sm_rf t d) Q) (hDE : DE + 2 ≤ D) (h : F_Reader_readSum_27 p1 kE k7 x2 x4 s0 I = some (rz, Iz)) (hQ : Q (.inl (some (.int rz))) (Iz, J, sm_rf t d)) (hk7 : ∀ (x2 : Int32) (x3 : Int32) (x4 : Int32) (I : sm_MI), k7 x2 x3 x4 I = some (rz, Iz) → sm_W sm_sh X (sm_C sm_sh X sm_P D) me_46 Q (7, [some (.ref 3), some (.ref p1), some (.int x2), some (.int x3), some (.int x4), none], [], 0, 0) (I, J, sm_rf t d)) : sm_W sm_sh X (sm_C sm_sh X sm_P D) me_46 Q (27, [some (.ref 3), some (.ref p1), some (.int x2), none, some (.int x4), none], [.int s0], 0, 0) (I, J, sm_rf t d) := by
  unfold F_Reader_readSum_27 at h
  rcases hp with rfl | rfl
  · skip
    refine sm_W.run (sm_C_mono D) 2 (G := True) (fr' := (29, [some (.ref 3), some (.ref 35), some (.int x2), none, some (.int x4), some (.int s0)], [.ref 3], 0, 0)) (M' := (I, J, sm_rf t d)) rfl trivial ?_
    obtain ⟨I1, hc, h⟩ := sd_q1_go h
    refine sm_W.cal (sm_C_mono D) (y := 29) (as := [.ref 3]) (fr' := (30, [some (.ref 3), some (.ref 35), some (.int x2), none, some (.int x4), some (.int s0)], [], 0, 0)) rfl (T_Reader_step (by omega) hc ?_)
    show sm_W sm_sh X (sm_C sm_sh X sm_P D) me_46 Q (30, [some (.ref 3), some (.ref 35), some (.int x2), none, some (.int x4), some (.int s0)], [], 0, 0) (I1, J, sm_rf t d)
    refine sm_W.run (sm_C_mono D) 3 (G := True) (fr' := (33, [some (.ref 3), some (.ref 35), some (.int x2), none, some (.int x4), some (.int s0)], [.int x2, .ref 35, .ref 3], 0, 0)) (M' := (I1, J, sm_rf t d)) rfl trivial ?_
    obtain ⟨r2, I3, hc, h⟩ := sd_q2_go h
    refine sm_W.cal (sm_C_mono D) (y := 47) (as := [.ref 3, .ref 35, .int x2]) (fr' := (34, [some (.ref 3), some (.ref 35), some (.int x2), none, some (.int x4), some (.int s0)], [], 0, 0)) rfl (T_Reader_readProduct (by omega) (by decide) hE (by omega) hc ?_)
    show sm_W sm_sh X (sm_C sm_sh X sm_P D) me_46 Q (34, [some (.ref 3), some (.ref 35), some (.int x2), none, some (.int x4), some (.int s0)], [.int r2], 0, 0) (I3, J, sm_rf t d)
    refine sm_W.run (sm_C_mono D) 3 (G := True) (fr' := (37, [some (.ref 3), some (.ref 35), some (.int x2), some (.int r2), some (.int x4), some (.int s0)], [.int s0, .ref 35], 0, 0)) (M' := (I3, J, sm_rf t d)) rfl trivial ?_
    obtain ⟨I4, hc, h⟩ := sd_q1_go h
    refine sm_W.cal (sm_C_mono D) (y := 52) (as := [.ref 35, .int s0]) (fr' := (38, [some (.ref 3), some (.ref 35), some (.int x2), some (.int r2), some (.int x4), some (.int s0)], [], 0, 0)) rfl (T_Rules_add (by omega) (by decide) hc ?_)
    show sm_W sm_sh X (sm_C sm_sh X sm_P D) me_46 Q (38, [some (.ref 3), some (.ref 35), some (.int x2), some (.int r2), some (.int x4), some (.int s0)], [], 0, 0) (I4, J, sm_rf t d)
    refine sm_W.run (sm_C_mono D) 2 (G := True) (fr' := (7, [some (.ref 3), some (.ref 35), some (.int x2), some (.int r2), some (.int (x4 + (1 : Int32))), some (.int s0)], [], 0, 0)) (M' := (I4, J, sm_rf t d)) rfl trivial ?_
    exact sm_W.forget (L' := [some (.ref 3), some (.ref 35), some (.int x2), some (.int r2), some (.int (x4 + (1 : Int32))), none]) ⟨rfl, ⟨rfl, ⟨rfl, ⟨rfl, ⟨rfl, trivial⟩⟩⟩⟩⟩ (hk7 _ _ _ _ h)
  · skip
    refine sm_W.run (sm_C_mono D) 2 (G := True) (fr' := (29, [some (.ref 3), some (.ref 55), some (.int x2), none, some (.int x4), some (.int s0)], [.ref 3], 0, 0)) (M' := (I, J, sm_rf t d)) rfl trivial ?_
    obtain ⟨I1, hc, h⟩ := sd_q1_go h
    refine sm_W.cal (sm_C_mono D) (y := 29) (as := [.ref 3]) (fr' := (30, [some (.ref 3), some (.ref 55), some (.int x2), none, some (.int x4), some (.int s0)], [], 0, 0)) rfl (T_Reader_step (by omega) hc ?_)
    show sm_W sm_sh X (sm_C sm_sh X sm_P D) me_46 Q (30, [some (.ref 3), some (.ref 55), some (.int x2), none, some (.int x4), some (.int s0)], [], 0, 0) (I1, J, sm_rf t d)
    refine sm_W.run (sm_C_mono D) 3 (G := True) (fr' := (33, [some (.ref 3), some (.ref 55), some (.int x2), none, some (.int x4), some (.int s0)], [.int x2, .ref 55, .ref 3], 0, 0)) (M' := (I1, J, sm_rf t d)) rfl trivial ?_
    obtain ⟨r2, I3, hc, h⟩ := sd_q2_go h
    refine sm_W.cal (sm_C_mono D) (y := 47) (as := [.ref 3, .ref 55, .int x2]) (fr' := (34, [some (.ref 3), some (.ref 55), some (.int x2), none, some (.int x4), some (.int s0)], [], 0, 0)) rfl (T_Reader_readProduct (by omega) (by decide) hE (by omega) hc ?_)
    show sm_W sm_sh X (sm_C sm_sh X sm_P D) me_46 Q (34, [some (.ref 3), some (.ref 55), some (.int x2), none, some (.int x4), some (.int s0)], [.int r2], 0, 0) (I3, J, sm_rf t d)
    refine sm_W.run (sm_C_mono D) 3 (G := True) (fr' := (37, [some (.ref 3), some (.ref 55), some (.int x2), some (.int r2), some (.int x4), some (.int s0)], [.int s0, .ref 55], 0, 0)) (M' := (I3, J, sm_rf t d)) rfl trivial ?_
    obtain ⟨I4, hc, h⟩ := sd_q1_go h
    refine sm_W.cal (sm_C_mono D) (y := 52) (as := [.ref 55, .int s0]) (fr' := (38, [some (.ref 3), some (.ref 55), some (.int x2), some (.int r2), some (.int x4), some (.int s0)], [], 0, 0)) rfl (T_Rules_add (by omega) (by decide) hc ?_)
    show sm_W sm_sh X (sm_C sm_sh X sm_P D) me_46 Q (38, [some (.ref 3), some (.ref 55), some (.int x2), some (.int r2), some (.int x4), some (.int s0)], [], 0, 0) (I4, J, sm_rf t d)
    refine sm_W.run (sm_C_mono D) 2 (G := True) (fr' := (7, [some (.ref 3), some (.ref 55), some (.int x2), some (.int r2), some (.int (x4 + (1 : Int32))), some (.int s0)], [], 0, 0)) (M' := (I4, J, sm_rf t d)) rfl trivial ?_
    exact sm_W.forget (L' := [some (.ref 3), some (.ref 55), some (.int x2), some (.int r2), some (.int (x4 + (1 : Int32))), none]) ⟨rfl, ⟨rfl, ⟨rfl, ⟨rfl, ⟨rfl, trivial⟩⟩⟩⟩⟩ (hk7 _ _ _ _ h)
theorem G_Reader_readSum_20 {X : Nat × (Nat → Int32)} {t d D DE : Nat} {Q : sm_Q} {I : sm_MI} {J : sm_MJ} {p1 : Nat} {kE : Nat → Int32 → sm_MI → Option (Int32 × sm_MI)} {k7 : Int32 → Int32 → Int32 → sm_MI → Option (Int32 × sm_MI)} {x2 : Int32} {x4 : Int32} {rz : Int32} {Iz : sm_MI}
    (hD : 5 ≤ D) (hp : (p1 = 35) ∨ (p1 = 55)) (hE : ∀ (r : Nat) (x : Int32) (I : sm_MI) (v : Int32) (I9 : sm_MI) (Q : sm_Q), (r = 35 ∨ r = 55) → kE r x I = some (v, I9) → Q (.inl (some (.int v))) (I9, J, sm_rf t d) → sm_C sm_sh X sm_P DE 42 [.ref 3, .ref r, .int x] (I, J, sm_rf t d) Q) (hDE : DE + 2 ≤ D) (h : F_Reader_readSum_20 p1 kE k7 x2 x4 I = some (rz, Iz)) (hQ : Q (.inl (some (.int rz))) (Iz, J, sm_rf t d)) (hk7 : ∀ (x2 : Int32) (x3 : Int32) (x4 : Int32) (I : sm_MI), k7 x2 x3 x4 I = some (rz, Iz) → sm_W sm_sh X (sm_C sm_sh X sm_P D) me_46 Q (7, [some (.ref 3), some (.ref p1), some (.int x2), some (.int x3), some (.int x4), none], [], 0, 0) (I, J, sm_rf t d)) : sm_W sm_sh X (sm_C sm_sh X sm_P D) me_46 Q (20, [some (.ref 3), some (.ref p1), some (.int x2), none, some (.int x4), none], [], 0, 0) (I, J, sm_rf t d) := by
  unfold F_Reader_readSum_20 at h
  rcases hp with rfl | rfl
  · skip
    refine sm_W.run (sm_C_mono D) 2 (G := True) (fr' := (22, [some (.ref 3), some (.ref 35), some (.int x2), none, some (.int x4), none], [.int (43 : Int32), .ref 3], 0, 0)) (M' := (I, J, sm_rf t d)) rfl trivial ?_
    obtain ⟨r1, hc, h⟩ := sd_q1_go h
    refine sm_W.cal (sm_C_mono D) (y := 30) (as := [.ref 3, .int (43 : Int32)]) (fr' := (23, [some (.ref 3), some (.ref 35), some (.int x2), none, some (.int x4), none], [], 0, 0)) rfl (T_Reader_atSign (by omega) hc ?_)
    show sm_W sm_sh X (sm_C sm_sh X sm_P D) me_46 Q (23, [some (.ref 3), some (.ref 35), some (.int x2), none, some (.int x4), none], [.int r1], 0, 0) (I, J, sm_rf t d)
    refine sm_W.run (sm_C_mono D) 1 (G := True) (fr' := (if decide (r1 = 0) = true then 26 else 24, [some (.ref 3), some (.ref 35), some (.int x2), none, some (.int x4), none], [], 0, 0)) (M' := (I, J, sm_rf t d)) rfl trivial (sm_W.iteD h (fun hc h => ?_) (fun hc h => ?_))
    · refine sm_W.run (sm_C_mono D) 1 (G := True) (fr' := (27, [some (.ref 3), some (.ref 35), some (.int x2), none, some (.int x4), none], [.int (20006 : Int32)], 0, 0)) (M' := (I, J, sm_rf t d)) rfl trivial ?_
      exact (G_Reader_readSum_27 hD (by decide) hE hDE h hQ hk7)
    · refine sm_W.run (sm_C_mono D) 2 (G := True) (fr' := (27, [some (.ref 3), some (.ref 35), some (.int x2), none, some (.int x4), none], [.int (20005 : Int32)], 0, 0)) (M' := (I, J, sm_rf t d)) rfl trivial ?_
      exact (G_Reader_readSum_27 hD (by decide) hE hDE h hQ hk7)
  · skip
    refine sm_W.run (sm_C_mono D) 2 (G := True) (fr' := (22, [some (.ref 3), some (.ref 55), some (.int x2), none, some (.int x4), none], [.int (43 : Int32), .ref 3], 0, 0)) (M' := (I, J, sm_rf t d)) rfl trivial ?_
    obtain ⟨r1, hc, h⟩ := sd_q1_go h
    refine sm_W.cal (sm_C_mono D) (y := 30) (as := [.ref 3, .int (43 : Int32)]) (fr' := (23, [some (.ref 3), some (.ref 55), some (.int x2), none, some (.int x4), none], [], 0, 0)) rfl (T_Reader_atSign (by omega) hc ?_)
    show sm_W sm_sh X (sm_C sm_sh X sm_P D) me_46 Q (23, [some (.ref 3), some (.ref 55), some (.int x2), none, some (.int x4), none], [.int r1], 0, 0) (I, J, sm_rf t d)
    refine sm_W.run (sm_C_mono D) 1 (G := True) (fr' := (if decide (r1 = 0) = true then 26 else 24, [some (.ref 3), some (.ref 55), some (.int x2), none, some (.int x4), none], [], 0, 0)) (M' := (I, J, sm_rf t d)) rfl trivial (sm_W.iteD h (fun hc h => ?_) (fun hc h => ?_))
    · refine sm_W.run (sm_C_mono D) 1 (G := True) (fr' := (27, [some (.ref 3), some (.ref 55), some (.int x2), none, some (.int x4), none], [.int (20006 : Int32)], 0, 0)) (M' := (I, J, sm_rf t d)) rfl trivial ?_
      exact (G_Reader_readSum_27 hD (by decide) hE hDE h hQ hk7)
    · refine sm_W.run (sm_C_mono D) 2 (G := True) (fr' := (27, [some (.ref 3), some (.ref 55), some (.int x2), none, some (.int x4), none], [.int (20005 : Int32)], 0, 0)) (M' := (I, J, sm_rf t d)) rfl trivial ?_
      exact (G_Reader_readSum_27 hD (by decide) hE hDE h hQ hk7)
theorem G_Reader_readSum_7B {X : Nat × (Nat → Int32)} {t d D DE : Nat} {Q : sm_Q} {I : sm_MI} {J : sm_MJ} {p1 : Nat} {kE : Nat → Int32 → sm_MI → Option (Int32 × sm_MI)} {k7 : Int32 → Int32 → Int32 → sm_MI → Option (Int32 × sm_MI)} {x2 : Int32} {x3 : Int32} {x4 : Int32} {rz : Int32} {Iz : sm_MI}
    (hD : 5 ≤ D) (hp : (p1 = 35) ∨ (p1 = 55)) (hE : ∀ (r : Nat) (x : Int32) (I : sm_MI) (v : Int32) (I9 : sm_MI) (Q : sm_Q), (r = 35 ∨ r = 55) → kE r x I = some (v, I9) → Q (.inl (some (.int v))) (I9, J, sm_rf t d) → sm_C sm_sh X sm_P DE 42 [.ref 3, .ref r, .int x] (I, J, sm_rf t d) Q) (hDE : DE + 2 ≤ D) (h : F_Reader_readSum_7B p1 kE k7 x2 x3 x4 I = some (rz, Iz)) (hQ : Q (.inl (some (.int rz))) (Iz, J, sm_rf t d)) (hk7 : ∀ (x2 : Int32) (x3 : Int32) (x4 : Int32) (I : sm_MI), k7 x2 x3 x4 I = some (rz, Iz) → sm_W sm_sh X (sm_C sm_sh X sm_P D) me_46 Q (7, [some (.ref 3), some (.ref p1), some (.int x2), some (.int x3), some (.int x4), none], [], 0, 0) (I, J, sm_rf t d)) : sm_W sm_sh X (sm_C sm_sh X sm_P D) me_46 Q (7, [some (.ref 3), some (.ref p1), some (.int x2), some (.int x3), some (.int x4), none], [], 0, 0) (I, J, sm_rf t d) := by
  unfold F_Reader_readSum_7B at h
  rcases hp with rfl | rfl
  · skip
    refine sm_W.run (sm_C_mono D) 3 (G := True) (fr' := (if decide ((700 : Int32) ≤ x4) = true then 40 else 10, [some (.ref 3), some (.ref 35), some (.int x2), some (.int x3), some (.int x4), none], [], 0, 0)) (M' := (I, J, sm_rf t d)) rfl trivial (sm_W.iteD h (fun hc h => ?_) (fun hc h => ?_))
    · refine sm_W.run (sm_C_mono D) 1 (G := True) (fr' := (41, [some (.ref 3), some (.ref 35), some (.int x2), some (.int x3), some (.int x4), none], [.int x3], 0, 0)) (M' := (I, J, sm_rf t d)) rfl trivial ?_
      cases h
      exact sm_W.ret (sm_C_mono D) rfl hQ
    · refine sm_W.run (sm_C_mono D) 2 (G := True) (fr' := (if decide (x3 = 0) = true then 40 else 12, [some (.ref 3), some (.ref 35), some (.int x2), some (.int x3), some (.int x4), none], [], 0, 0)) (M' := (I, J, sm_rf t d)) rfl trivial (sm_W.iteD h (fun hc h => ?_) (fun hc h => ?_))
      · refine sm_W.run (sm_C_mono D) 1 (G := True) (fr' := (41, [some (.ref 3), some (.ref 35), some (.int x2), some (.int x3), some (.int x4), none], [.int x3], 0, 0)) (M' := (I, J, sm_rf t d)) rfl trivial ?_
        cases h
        exact sm_W.ret (sm_C_mono D) rfl hQ
      · refine sm_W.run (sm_C_mono D) 2 (G := True) (fr' := (14, [some (.ref 3), some (.ref 35), some (.int x2), some (.int x3), some (.int x4), none], [.int (43 : Int32), .ref 3], 0, 0)) (M' := (I, J, sm_rf t d)) rfl trivial ?_
        obtain ⟨r1, hc, h⟩ := sd_q1_go h
        refine sm_W.cal (sm_C_mono D) (y := 30) (as := [.ref 3, .int (43 : Int32)]) (fr' := (15, [some (.ref 3), some (.ref 35), some (.int x2), some (.int x3), some (.int x4), none], [], 0, 0)) rfl (T_Reader_atSign (by omega) hc ?_)
        show sm_W sm_sh X (sm_C sm_sh X sm_P D) me_46 Q (15, [some (.ref 3), some (.ref 35), some (.int x2), some (.int x3), some (.int x4), none], [.int r1], 0, 0) (I, J, sm_rf t d)
        refine sm_W.run (sm_C_mono D) 1 (G := True) (fr' := (if decide (¬ r1 = 0) = true then 20 else 16, [some (.ref 3), some (.ref 35), some (.int x2), some (.int x3), some (.int x4), none], [], 0, 0)) (M' := (I, J, sm_rf t d)) rfl trivial (sm_W.iteD h (fun hc h => ?_) (fun hc h => ?_))
        · exact sm_W.forget (L' := [some (.ref 3), some (.ref 35), some (.int x2), none, some (.int x4), none]) ⟨rfl, ⟨rfl, ⟨rfl, ⟨rfl, trivial⟩⟩⟩⟩ (G_Reader_readSum_20 hD (by decide) hE hDE h hQ hk7)
        · refine sm_W.run (sm_C_mono D) 2 (G := True) (fr' := (18, [some (.ref 3), some (.ref 35), some (.int x2), some (.int x3), some (.int x4), none], [.int (45 : Int32), .ref 3], 0, 0)) (M' := (I, J, sm_rf t d)) rfl trivial ?_
          obtain ⟨r2, hc, h⟩ := sd_q1_go h
          refine sm_W.cal (sm_C_mono D) (y := 30) (as := [.ref 3, .int (45 : Int32)]) (fr' := (19, [some (.ref 3), some (.ref 35), some (.int x2), some (.int x3), some (.int x4), none], [], 0, 0)) rfl (T_Reader_atSign (by omega) hc ?_)
          show sm_W sm_sh X (sm_C sm_sh X sm_P D) me_46 Q (19, [some (.ref 3), some (.ref 35), some (.int x2), some (.int x3), some (.int x4), none], [.int r2], 0, 0) (I, J, sm_rf t d)
          refine sm_W.run (sm_C_mono D) 1 (G := True) (fr' := (if decide (r2 = 0) = true then 40 else 20, [some (.ref 3), some (.ref 35), some (.int x2), some (.int x3), some (.int x4), none], [], 0, 0)) (M' := (I, J, sm_rf t d)) rfl trivial (sm_W.iteD h (fun hc h => ?_) (fun hc h => ?_))
          · refine sm_W.run (sm_C_mono D) 1 (G := True) (fr' := (41, [some (.ref 3), some (.ref 35), some (.int x2), some (.int x3), some (.int x4), none], [.int x3], 0, 0)) (M' := (I, J, sm_rf t d)) rfl trivial ?_
            cases h
            exact sm_W.ret (sm_C_mono D) rfl hQ
          · exact sm_W.forget (L' := [some (.ref 3), some (.ref 35), some (.int x2), none, some (.int x4), none]) ⟨rfl, ⟨rfl, ⟨rfl, ⟨rfl, trivial⟩⟩⟩⟩ (G_Reader_readSum_20 hD (by decide) hE hDE h hQ hk7)
  · skip
    refine sm_W.run (sm_C_mono D) 3 (G := True) (fr' := (if decide ((700 : Int32) ≤ x4) = true then 40 else 10, [some (.ref 3), some (.ref 55), some (.int x2), some (.int x3), some (.int x4), none], [], 0, 0)) (M' := (I, J, sm_rf t d)) rfl trivial (sm_W.iteD h (fun hc h => ?_) (fun hc h => ?_))
    · refine sm_W.run (sm_C_mono D) 1 (G := True) (fr' := (41, [some (.ref 3), some (.ref 55), some (.int x2), some (.int x3), some (.int x4), none], [.int x3], 0, 0)) (M' := (I, J, sm_rf t d)) rfl trivial ?_
      cases h
      exact sm_W.ret (sm_C_mono D) rfl hQ
    · refine sm_W.run (sm_C_mono D) 2 (G := True) (fr' := (if decide (x3 = 0) = true then 40 else 12, [some (.ref 3), some (.ref 55), some (.int x2), some (.int x3), some (.int x4), none], [], 0, 0)) (M' := (I, J, sm_rf t d)) rfl trivial (sm_W.iteD h (fun hc h => ?_) (fun hc h => ?_))
      · refine sm_W.run (sm_C_mono D) 1 (G := True) (fr' := (41, [some (.ref 3), some (.ref 55), some (.int x2), some (.int x3), some (.int x4), none], [.int x3], 0, 0)) (M' := (I, J, sm_rf t d)) rfl trivial ?_
        cases h
        exact sm_W.ret (sm_C_mono D) rfl hQ
      · refine sm_W.run (sm_C_mono D) 2 (G := True) (fr' := (14, [some (.ref 3), some (.ref 55), some (.int x2), some (.int x3), some (.int x4), none], [.int (43 : Int32), .ref 3], 0, 0)) (M' := (I, J, sm_rf t d)) rfl trivial ?_
        obtain ⟨r1, hc, h⟩ := sd_q1_go h
        refine sm_W.cal (sm_C_mono D) (y := 30) (as := [.ref 3, .int (43 : Int32)]) (fr' := (15, [some (.ref 3), some (.ref 55), some (.int x2), some (.int x3), some (.int x4), none], [], 0, 0)) rfl (T_Reader_atSign (by omega) hc ?_)
        show sm_W sm_sh X (sm_C sm_sh X sm_P D) me_46 Q (15, [some (.ref 3), some (.ref 55), some (.int x2), some (.int x3), some (.int x4), none], [.int r1], 0, 0) (I, J, sm_rf t d)
        refine sm_W.run (sm_C_mono D) 1 (G := True) (fr' := (if decide (¬ r1 = 0) = true then 20 else 16, [some (.ref 3), some (.ref 55), some (.int x2), some (.int x3), some (.int x4), none], [], 0, 0)) (M' := (I, J, sm_rf t d)) rfl trivial (sm_W.iteD h (fun hc h => ?_) (fun hc h => ?_))
        · exact sm_W.forget (L' := [some (.ref 3), some (.ref 55), some (.int x2), none, some (.int x4), none]) ⟨rfl, ⟨rfl, ⟨rfl, ⟨rfl, trivial⟩⟩⟩⟩ (G_Reader_readSum_20 hD (by decide) hE hDE h hQ hk7)
        · refine sm_W.run (sm_C_mono D) 2 (G := True) (fr' := (18, [some (.ref 3), some (.ref 55), some (.int x2), some (.int x3), some (.int x4), none], [.int (45 : Int32), .ref 3], 0, 0)) (M' := (I, J, sm_rf t d)) rfl trivial ?_
          obtain ⟨r2, hc, h⟩ := sd_q1_go h
          refine sm_W.cal (sm_C_mono D) (y := 30) (as := [.ref 3, .int (45 : Int32)]) (fr' := (19, [some (.ref 3), some (.ref 55), some (.int x2), some (.int x3), some (.int x4), none], [], 0, 0)) rfl (T_Reader_atSign (by omega) hc ?_)
          show sm_W sm_sh X (sm_C sm_sh X sm_P D) me_46 Q (19, [some (.ref 3), some (.ref 55), some (.int x2), some (.int x3), some (.int x4), none], [.int r2], 0, 0) (I, J, sm_rf t d)
          refine sm_W.run (sm_C_mono D) 1 (G := True) (fr' := (if decide (r2 = 0) = true then 40 else 20, [some (.ref 3), some (.ref 55), some (.int x2), some (.int x3), some (.int x4), none], [], 0, 0)) (M' := (I, J, sm_rf t d)) rfl trivial (sm_W.iteD h (fun hc h => ?_) (fun hc h => ?_))
          · refine sm_W.run (sm_C_mono D) 1 (G := True) (fr' := (41, [some (.ref 3), some (.ref 55), some (.int x2), some (.int x3), some (.int x4), none], [.int x3], 0, 0)) (M' := (I, J, sm_rf t d)) rfl trivial ?_
            cases h
            exact sm_W.ret (sm_C_mono D) rfl hQ
          · exact sm_W.forget (L' := [some (.ref 3), some (.ref 55), some (.int x2), none, some (.int x4), none]) ⟨rfl, ⟨rfl, ⟨rfl, ⟨rfl, trivial⟩⟩⟩⟩ (G_Reader_readSum_20 hD (by decide) hE hDE h hQ hk7)
theorem G_Reader_readSum_7 {X : Nat × (Nat → Int32)} {t d D DE : Nat} {Q : sm_Q} {J : sm_MJ} {p1 : Nat} {kE : Nat → Int32 → sm_MI → Option (Int32 × sm_MI)} {rz : Int32} {Iz : sm_MI}
    (hD : 5 ≤ D) (hp : (p1 = 35) ∨ (p1 = 55)) (hE : ∀ (r : Nat) (x : Int32) (I : sm_MI) (v : Int32) (I9 : sm_MI) (Q : sm_Q), (r = 35 ∨ r = 55) → kE r x I = some (v, I9) → Q (.inl (some (.int v))) (I9, J, sm_rf t d) → sm_C sm_sh X sm_P DE 42 [.ref 3, .ref r, .int x] (I, J, sm_rf t d) Q) (hDE : DE + 2 ≤ D) (hQ : Q (.inl (some (.int rz))) (Iz, J, sm_rf t d))  : ∀ (n : Nat) (x2 : Int32) (x3 : Int32) (x4 : Int32) (I : sm_MI), F_Reader_readSum_7 p1 kE n x2 x3 x4 I = some (rz, Iz) → sm_W sm_sh X (sm_C sm_sh X sm_P D) me_46 Q (7, [some (.ref 3), some (.ref p1), some (.int x2), some (.int x3), some (.int x4), none], [], 0, 0) (I, J, sm_rf t d) := by
  intro n
  induction n with
  | zero => intro x2 x3 x4 I h; cases (show (none : Option (Int32 × sm_MI)) = some (rz, Iz) from h)
  | succ n ih => intro x2 x3 x4 I h; exact G_Reader_readSum_7B hD hp hE hDE (show F_Reader_readSum_7B p1 kE (F_Reader_readSum_7 p1 kE n) x2 x3 x4 I = some (rz, Iz) from h) hQ  ih
theorem G_Reader_readSum {X : Nat × (Nat → Int32)} {t d D DE : Nat} {Q : sm_Q} {I : sm_MI} {J : sm_MJ} {p1 : Nat} {kE : Nat → Int32 → sm_MI → Option (Int32 × sm_MI)} {x2 : Int32} {rz : Int32} {Iz : sm_MI}
    (hD : 5 ≤ D) (hp : (p1 = 35) ∨ (p1 = 55)) (hE : ∀ (r : Nat) (x : Int32) (I : sm_MI) (v : Int32) (I9 : sm_MI) (Q : sm_Q), (r = 35 ∨ r = 55) → kE r x I = some (v, I9) → Q (.inl (some (.int v))) (I9, J, sm_rf t d) → sm_C sm_sh X sm_P DE 42 [.ref 3, .ref r, .int x] (I, J, sm_rf t d) Q) (hDE : DE + 2 ≤ D) (h : F_Reader_readSum p1 kE x2 I = some (rz, Iz)) (hQ : Q (.inl (some (.int rz))) (Iz, J, sm_rf t d))  : sm_W sm_sh X (sm_C sm_sh X sm_P D) me_46 Q (0, [some (.ref 3), some (.ref p1), some (.int x2), none, none, none], [], 0, 0) (I, J, sm_rf t d) := by
  unfold F_Reader_readSum at h
  rcases hp with rfl | rfl
  · skip
    refine sm_W.run (sm_C_mono D) 3 (G := True) (fr' := (3, [some (.ref 3), some (.ref 35), some (.int x2), none, none, none], [.int x2, .ref 35, .ref 3], 0, 0)) (M' := (I, J, sm_rf t d)) rfl trivial ?_
    obtain ⟨r1, I2, hc, h⟩ := sd_q2_go h
    refine sm_W.cal (sm_C_mono D) (y := 47) (as := [.ref 3, .ref 35, .int x2]) (fr' := (4, [some (.ref 3), some (.ref 35), some (.int x2), none, none, none], [], 0, 0)) rfl (T_Reader_readProduct (by omega) (by decide) hE (by omega) hc ?_)
    show sm_W sm_sh X (sm_C sm_sh X sm_P D) me_46 Q (4, [some (.ref 3), some (.ref 35), some (.int x2), none, none, none], [.int r1], 0, 0) (I2, J, sm_rf t d)
    refine sm_W.run (sm_C_mono D) 3 (G := True) (fr' := (7, [some (.ref 3), some (.ref 35), some (.int x2), some (.int r1), some (.int (0 : Int32)), none], [], 0, 0)) (M' := (I2, J, sm_rf t d)) rfl trivial ?_
    exact (G_Reader_readSum_7 hD (by decide) hE hDE hQ sd_fu _ _ _ _ h)
  · skip
    refine sm_W.run (sm_C_mono D) 3 (G := True) (fr' := (3, [some (.ref 3), some (.ref 55), some (.int x2), none, none, none], [.int x2, .ref 55, .ref 3], 0, 0)) (M' := (I, J, sm_rf t d)) rfl trivial ?_
    obtain ⟨r1, I2, hc, h⟩ := sd_q2_go h
    refine sm_W.cal (sm_C_mono D) (y := 47) (as := [.ref 3, .ref 55, .int x2]) (fr' := (4, [some (.ref 3), some (.ref 55), some (.int x2), none, none, none], [], 0, 0)) rfl (T_Reader_readProduct (by omega) (by decide) hE (by omega) hc ?_)
    show sm_W sm_sh X (sm_C sm_sh X sm_P D) me_46 Q (4, [some (.ref 3), some (.ref 55), some (.int x2), none, none, none], [.int r1], 0, 0) (I2, J, sm_rf t d)
    refine sm_W.run (sm_C_mono D) 3 (G := True) (fr' := (7, [some (.ref 3), some (.ref 55), some (.int x2), some (.int r1), some (.int (0 : Int32)), none], [], 0, 0)) (M' := (I2, J, sm_rf t d)) rfl trivial ?_
    exact (G_Reader_readSum_7 hD (by decide) hE hDE hQ sd_fu _ _ _ _ h)
theorem T_Reader_readSum {X : Nat × (Nat → Int32)} {t d D DE : Nat} {Q : sm_Q} {I : sm_MI} {J : sm_MJ} {p1 : Nat} {kE : Nat → Int32 → sm_MI → Option (Int32 × sm_MI)} {x2 : Int32} {rz : Int32} {Iz : sm_MI}
    (hD : 6 ≤ D) (hp : (p1 = 35) ∨ (p1 = 55)) (hE : ∀ (r : Nat) (x : Int32) (I : sm_MI) (v : Int32) (I9 : sm_MI) (Q : sm_Q), (r = 35 ∨ r = 55) → kE r x I = some (v, I9) → Q (.inl (some (.int v))) (I9, J, sm_rf t d) → sm_C sm_sh X sm_P DE 42 [.ref 3, .ref r, .int x] (I, J, sm_rf t d) Q) (hDE : DE + 3 ≤ D) (h : F_Reader_readSum p1 kE x2 I = some (rz, Iz)) (hQ : Q (.inl (some (.int rz))) (Iz, J, sm_rf t d)) : sm_C sm_sh X sm_P D 46 [.ref 3, .ref p1, .int x2] (I, J, sm_rf t d) Q := by
  cases D with
  | zero => omega
  | succ D => exact sm_C.of (me := me_46) (L := [some (.ref 3), some (.ref p1), some (.int x2), none, none, none]) rfl rfl rfl (sm_W.forget (L' := [some (.ref 3), some (.ref p1), some (.int x2), none, none, none]) ⟨rfl, ⟨rfl, ⟨rfl, trivial⟩⟩⟩ (G_Reader_readSum (by omega) hp hE (by omega) h hQ))
-- 45 Reader_readTest
noncomputable def F_Reader_readTest_32 (p1 : Nat) (kE : Nat → Int32 → sm_MI → Option (Int32 × sm_MI)) (x4 : Int32) (s1 : Int32) (I : sm_MI) : Option (Int32 × sm_MI) :=
  sd_q1 (F_Rules_add p1 s1 I) fun I1 =>
  some ((vp_nar .boolean x4), I1)
noncomputable def F_Reader_readTest_19 (p1 : Nat) (kE : Nat → Int32 → sm_MI → Option (Int32 × sm_MI)) (x2 : Int32) (x3 : Int32) (I : sm_MI) : Option (Int32 × sm_MI) :=
  sd_q1 (F_Reader_step I) fun I1 =>
  sd_q2 (F_Reader_readSum p1 kE x2 I1) fun r2 I3 =>
  if x3 = 0 then
    F_Reader_readTest_32 p1 kE r2 (20004 : Int32) I3
  else
    F_Reader_readTest_32 p1 kE r2 (20003 : Int32) I3
noncomputable def F_Reader_readTest (p1 : Nat) (kE : Nat → Int32 → sm_MI → Option (Int32 × sm_MI)) (x2 : Int32) (I : sm_MI) : Option (Int32 × sm_MI) :=
  sd_q2 (F_Reader_readSum p1 kE x2 I) fun r1 I2 =>
  if ¬ r1 = 0 then
    sd_q1 (F_Reader_atSign (60 : Int32) I2) fun r3 =>
    if ¬ r3 = 0 then
      F_Reader_readTest_19 p1 kE x2 r3 I2
    else
      sd_q1 (F_Reader_atSign (61 : Int32) I2) fun r4 =>
      if ¬ r4 = 0 then
        F_Reader_readTest_19 p1 kE x2 r3 I2
      else
        some ((1 : Int32), I2)
  else
    some ((0 : Int32), I2)
theorem G_Reader_readTest_32 {X : Nat × (Nat → Int32)} {t d D DE : Nat} {Q : sm_Q} {I : sm_MI} {J : sm_MJ} {p1 : Nat} {kE : Nat → Int32 → sm_MI → Option (Int32 × sm_MI)} {x4 : Int32} {s1 : Int32} {rz : Int32} {Iz : sm_MI}
    (hD : 6 ≤ D) (hp : (p1 = 35) ∨ (p1 = 55)) (hE : ∀ (r : Nat) (x : Int32) (I : sm_MI) (v : Int32) (I9 : sm_MI) (Q : sm_Q), (r = 35 ∨ r = 55) → kE r x I = some (v, I9) → Q (.inl (some (.int v))) (I9, J, sm_rf t d) → sm_C sm_sh X sm_P DE 42 [.ref 3, .ref r, .int x] (I, J, sm_rf t d) Q) (hDE : DE + 3 ≤ D) (h : F_Reader_readTest_32 p1 kE x4 s1 I = some (rz, Iz)) (hQ : Q (.inl (some (.int rz))) (Iz, J, sm_rf t d))  : sm_W sm_sh X (sm_C sm_sh X sm_P D) me_45 Q (32, [none, none, none, none, some (.int x4)], [.int s1, .ref p1], 0, 0) (I, J, sm_rf t d) := by
  unfold F_Reader_readTest_32 at h
  rcases hp with rfl | rfl
  · skip
    obtain ⟨I1, hc, h⟩ := sd_q1_go h
    refine sm_W.cal (sm_C_mono D) (y := 52) (as := [.ref 35, .int s1]) (fr' := (33, [none, none, none, none, some (.int x4)], [], 0, 0)) rfl (T_Rules_add (by omega) (by decide) hc ?_)
    show sm_W sm_sh X (sm_C sm_sh X sm_P D) me_45 Q (33, [none, none, none, none, some (.int x4)], [], 0, 0) (I1, J, sm_rf t d)
    refine sm_W.run (sm_C_mono D) 1 (G := True) (fr' := (34, [none, none, none, none, some (.int x4)], [.int x4], 0, 0)) (M' := (I1, J, sm_rf t d)) rfl trivial ?_
    cases h
    exact sm_W.ret (sm_C_mono D) rfl hQ
  · skip
    obtain ⟨I1, hc, h⟩ := sd_q1_go h
    refine sm_W.cal (sm_C_mono D) (y := 52) (as := [.ref 55, .int s1]) (fr' := (33, [none, none, none, none, some (.int x4)], [], 0, 0)) rfl (T_Rules_add (by omega) (by decide) hc ?_)
    show sm_W sm_sh X (sm_C sm_sh X sm_P D) me_45 Q (33, [none, none, none, none, some (.int x4)], [], 0, 0) (I1, J, sm_rf t d)
    refine sm_W.run (sm_C_mono D) 1 (G := True) (fr' := (34, [none, none, none, none, some (.int x4)], [.int x4], 0, 0)) (M' := (I1, J, sm_rf t d)) rfl trivial ?_
    cases h
    exact sm_W.ret (sm_C_mono D) rfl hQ
theorem G_Reader_readTest_19 {X : Nat × (Nat → Int32)} {t d D DE : Nat} {Q : sm_Q} {I : sm_MI} {J : sm_MJ} {p1 : Nat} {kE : Nat → Int32 → sm_MI → Option (Int32 × sm_MI)} {x2 : Int32} {x3 : Int32} {rz : Int32} {Iz : sm_MI}
    (hD : 6 ≤ D) (hp : (p1 = 35) ∨ (p1 = 55)) (hE : ∀ (r : Nat) (x : Int32) (I : sm_MI) (v : Int32) (I9 : sm_MI) (Q : sm_Q), (r = 35 ∨ r = 55) → kE r x I = some (v, I9) → Q (.inl (some (.int v))) (I9, J, sm_rf t d) → sm_C sm_sh X sm_P DE 42 [.ref 3, .ref r, .int x] (I, J, sm_rf t d) Q) (hDE : DE + 3 ≤ D) (h : F_Reader_readTest_19 p1 kE x2 x3 I = some (rz, Iz)) (hQ : Q (.inl (some (.int rz))) (Iz, J, sm_rf t d))  : sm_W sm_sh X (sm_C sm_sh X sm_P D) me_45 Q (19, [some (.ref 3), some (.ref p1), some (.int x2), some (.int x3), none], [], 0, 0) (I, J, sm_rf t d) := by
  unfold F_Reader_readTest_19 at h
  rcases hp with rfl | rfl
  · skip
    refine sm_W.run (sm_C_mono D) 1 (G := True) (fr' := (20, [some (.ref 3), some (.ref 35), some (.int x2), some (.int x3), none], [.ref 3], 0, 0)) (M' := (I, J, sm_rf t d)) rfl trivial ?_
    obtain ⟨I1, hc, h⟩ := sd_q1_go h
    refine sm_W.cal (sm_C_mono D) (y := 29) (as := [.ref 3]) (fr' := (21, [some (.ref 3), some (.ref 35), some (.int x2), some (.int x3), none], [], 0, 0)) rfl (T_Reader_step (by omega) hc ?_)
    show sm_W sm_sh X (sm_C sm_sh X sm_P D) me_45 Q (21, [some (.ref 3), some (.ref 35), some (.int x2), some (.int x3), none], [], 0, 0) (I1, J, sm_rf t d)
    refine sm_W.run (sm_C_mono D) 3 (G := True) (fr' := (24, [some (.ref 3), some (.ref 35), some (.int x2), some (.int x3), none], [.int x2, .ref 35, .ref 3], 0, 0)) (M' := (I1, J, sm_rf t d)) rfl trivial ?_
    obtain ⟨r2, I3, hc, h⟩ := sd_q2_go h
    refine sm_W.cal (sm_C_mono D) (y := 46) (as := [.ref 3, .ref 35, .int x2]) (fr' := (25, [some (.ref 3), some (.ref 35), some (.int x2), some (.int x3), none], [], 0, 0)) rfl (T_Reader_readSum (by omega) (by decide) hE (by omega) hc ?_)
    show sm_W sm_sh X (sm_C sm_sh X sm_P D) me_45 Q (25, [some (.ref 3), some (.ref 35), some (.int x2), some (.int x3), none], [.int r2], 0, 0) (I3, J, sm_rf t d)
    refine sm_W.run (sm_C_mono D) 4 (G := True) (fr' := (if decide (x3 = 0) = true then 31 else 29, [some (.ref 3), some (.ref 35), some (.int x2), some (.int x3), some (.int r2)], [.ref 35], 0, 0)) (M' := (I3, J, sm_rf t d)) rfl trivial (sm_W.iteD h (fun hc h => ?_) (fun hc h => ?_))
    · refine sm_W.run (sm_C_mono D) 1 (G := True) (fr' := (32, [some (.ref 3), some (.ref 35), some (.int x2), some (.int x3), some (.int r2)], [.int (20004 : Int32), .ref 35], 0, 0)) (M' := (I3, J, sm_rf t d)) rfl trivial ?_
      exact sm_W.forget (L' := [none, none, none, none, some (.int r2)]) ⟨rfl, trivial⟩ (G_Reader_readTest_32 hD (by decide) hE hDE h hQ)
    · refine sm_W.run (sm_C_mono D) 2 (G := True) (fr' := (32, [some (.ref 3), some (.ref 35), some (.int x2), some (.int x3), some (.int r2)], [.int (20003 : Int32), .ref 35], 0, 0)) (M' := (I3, J, sm_rf t d)) rfl trivial ?_
      exact sm_W.forget (L' := [none, none, none, none, some (.int r2)]) ⟨rfl, trivial⟩ (G_Reader_readTest_32 hD (by decide) hE hDE h hQ)
  · skip
    refine sm_W.run (sm_C_mono D) 1 (G := True) (fr' := (20, [some (.ref 3), some (.ref 55), some (.int x2), some (.int x3), none], [.ref 3], 0, 0)) (M' := (I, J, sm_rf t d)) rfl trivial ?_
    obtain ⟨I1, hc, h⟩ := sd_q1_go h
    refine sm_W.cal (sm_C_mono D) (y := 29) (as := [.ref 3]) (fr' := (21, [some (.ref 3), some (.ref 55), some (.int x2), some (.int x3), none], [], 0, 0)) rfl (T_Reader_step (by omega) hc ?_)
    show sm_W sm_sh X (sm_C sm_sh X sm_P D) me_45 Q (21, [some (.ref 3), some (.ref 55), some (.int x2), some (.int x3), none], [], 0, 0) (I1, J, sm_rf t d)
    refine sm_W.run (sm_C_mono D) 3 (G := True) (fr' := (24, [some (.ref 3), some (.ref 55), some (.int x2), some (.int x3), none], [.int x2, .ref 55, .ref 3], 0, 0)) (M' := (I1, J, sm_rf t d)) rfl trivial ?_
    obtain ⟨r2, I3, hc, h⟩ := sd_q2_go h
    refine sm_W.cal (sm_C_mono D) (y := 46) (as := [.ref 3, .ref 55, .int x2]) (fr' := (25, [some (.ref 3), some (.ref 55), some (.int x2), some (.int x3), none], [], 0, 0)) rfl (T_Reader_readSum (by omega) (by decide) hE (by omega) hc ?_)
    show sm_W sm_sh X (sm_C sm_sh X sm_P D) me_45 Q (25, [some (.ref 3), some (.ref 55), some (.int x2), some (.int x3), none], [.int r2], 0, 0) (I3, J, sm_rf t d)
    refine sm_W.run (sm_C_mono D) 4 (G := True) (fr' := (if decide (x3 = 0) = true then 31 else 29, [some (.ref 3), some (.ref 55), some (.int x2), some (.int x3), some (.int r2)], [.ref 55], 0, 0)) (M' := (I3, J, sm_rf t d)) rfl trivial (sm_W.iteD h (fun hc h => ?_) (fun hc h => ?_))
    · refine sm_W.run (sm_C_mono D) 1 (G := True) (fr' := (32, [some (.ref 3), some (.ref 55), some (.int x2), some (.int x3), some (.int r2)], [.int (20004 : Int32), .ref 55], 0, 0)) (M' := (I3, J, sm_rf t d)) rfl trivial ?_
      exact sm_W.forget (L' := [none, none, none, none, some (.int r2)]) ⟨rfl, trivial⟩ (G_Reader_readTest_32 hD (by decide) hE hDE h hQ)
    · refine sm_W.run (sm_C_mono D) 2 (G := True) (fr' := (32, [some (.ref 3), some (.ref 55), some (.int x2), some (.int x3), some (.int r2)], [.int (20003 : Int32), .ref 55], 0, 0)) (M' := (I3, J, sm_rf t d)) rfl trivial ?_
      exact sm_W.forget (L' := [none, none, none, none, some (.int r2)]) ⟨rfl, trivial⟩ (G_Reader_readTest_32 hD (by decide) hE hDE h hQ)
theorem G_Reader_readTest {X : Nat × (Nat → Int32)} {t d D DE : Nat} {Q : sm_Q} {I : sm_MI} {J : sm_MJ} {p1 : Nat} {kE : Nat → Int32 → sm_MI → Option (Int32 × sm_MI)} {x2 : Int32} {rz : Int32} {Iz : sm_MI}
    (hD : 6 ≤ D) (hp : (p1 = 35) ∨ (p1 = 55)) (hE : ∀ (r : Nat) (x : Int32) (I : sm_MI) (v : Int32) (I9 : sm_MI) (Q : sm_Q), (r = 35 ∨ r = 55) → kE r x I = some (v, I9) → Q (.inl (some (.int v))) (I9, J, sm_rf t d) → sm_C sm_sh X sm_P DE 42 [.ref 3, .ref r, .int x] (I, J, sm_rf t d) Q) (hDE : DE + 3 ≤ D) (h : F_Reader_readTest p1 kE x2 I = some (rz, Iz)) (hQ : Q (.inl (some (.int rz))) (Iz, J, sm_rf t d))  : sm_W sm_sh X (sm_C sm_sh X sm_P D) me_45 Q (0, [some (.ref 3), some (.ref p1), some (.int x2), none, none], [], 0, 0) (I, J, sm_rf t d) := by
  unfold F_Reader_readTest at h
  rcases hp with rfl | rfl
  · skip
    refine sm_W.run (sm_C_mono D) 3 (G := True) (fr' := (3, [some (.ref 3), some (.ref 35), some (.int x2), none, none], [.int x2, .ref 35, .ref 3], 0, 0)) (M' := (I, J, sm_rf t d)) rfl trivial ?_
    obtain ⟨r1, I2, hc, h⟩ := sd_q2_go h
    refine sm_W.cal (sm_C_mono D) (y := 46) (as := [.ref 3, .ref 35, .int x2]) (fr' := (4, [some (.ref 3), some (.ref 35), some (.int x2), none, none], [], 0, 0)) rfl (T_Reader_readSum (by omega) (by decide) hE (by omega) hc ?_)
    show sm_W sm_sh X (sm_C sm_sh X sm_P D) me_45 Q (4, [some (.ref 3), some (.ref 35), some (.int x2), none, none], [.int r1], 0, 0) (I2, J, sm_rf t d)
    refine sm_W.run (sm_C_mono D) 1 (G := True) (fr' := (if decide (¬ r1 = 0) = true then 7 else 5, [some (.ref 3), some (.ref 35), some (.int x2), none, none], [], 0, 0)) (M' := (I2, J, sm_rf t d)) rfl trivial (sm_W.iteD h (fun hc h => ?_) (fun hc h => ?_))
    · refine sm_W.run (sm_C_mono D) 2 (G := True) (fr' := (9, [some (.ref 3), some (.ref 35), some (.int x2), none, none], [.int (60 : Int32), .ref 3], 0, 0)) (M' := (I2, J, sm_rf t d)) rfl trivial ?_
      obtain ⟨r3, hc, h⟩ := sd_q1_go h
      refine sm_W.cal (sm_C_mono D) (y := 30) (as := [.ref 3, .int (60 : Int32)]) (fr' := (10, [some (.ref 3), some (.ref 35), some (.int x2), none, none], [], 0, 0)) rfl (T_Reader_atSign (by omega) hc ?_)
      show sm_W sm_sh X (sm_C sm_sh X sm_P D) me_45 Q (10, [some (.ref 3), some (.ref 35), some (.int x2), none, none], [.int r3], 0, 0) (I2, J, sm_rf t d)
      refine sm_W.run (sm_C_mono D) 3 (G := True) (fr' := (if decide (¬ r3 = 0) = true then 19 else 13, [some (.ref 3), some (.ref 35), some (.int x2), some (.int r3), none], [], 0, 0)) (M' := (I2, J, sm_rf t d)) rfl trivial (sm_W.iteD h (fun hc h => ?_) (fun hc h => ?_))
      · exact (G_Reader_readTest_19 hD (by decide) hE hDE h hQ)
      · refine sm_W.run (sm_C_mono D) 2 (G := True) (fr' := (15, [some (.ref 3), some (.ref 35), some (.int x2), some (.int r3), none], [.int (61 : Int32), .ref 3], 0, 0)) (M' := (I2, J, sm_rf t d)) rfl trivial ?_
        obtain ⟨r4, hc, h⟩ := sd_q1_go h
        refine sm_W.cal (sm_C_mono D) (y := 30) (as := [.ref 3, .int (61 : Int32)]) (fr' := (16, [some (.ref 3), some (.ref 35), some (.int x2), some (.int r3), none], [], 0, 0)) rfl (T_Reader_atSign (by omega) hc ?_)
        show sm_W sm_sh X (sm_C sm_sh X sm_P D) me_45 Q (16, [some (.ref 3), some (.ref 35), some (.int x2), some (.int r3), none], [.int r4], 0, 0) (I2, J, sm_rf t d)
        refine sm_W.run (sm_C_mono D) 1 (G := True) (fr' := (if decide (¬ r4 = 0) = true then 19 else 17, [some (.ref 3), some (.ref 35), some (.int x2), some (.int r3), none], [], 0, 0)) (M' := (I2, J, sm_rf t d)) rfl trivial (sm_W.iteD h (fun hc h => ?_) (fun hc h => ?_))
        · exact (G_Reader_readTest_19 hD (by decide) hE hDE h hQ)
        · refine sm_W.run (sm_C_mono D) 1 (G := True) (fr' := (18, [some (.ref 3), some (.ref 35), some (.int x2), some (.int r3), none], [.int (1 : Int32)], 0, 0)) (M' := (I2, J, sm_rf t d)) rfl trivial ?_
          cases h
          exact sm_W.ret (sm_C_mono D) rfl hQ
    · refine sm_W.run (sm_C_mono D) 1 (G := True) (fr' := (6, [some (.ref 3), some (.ref 35), some (.int x2), none, none], [.int (0 : Int32)], 0, 0)) (M' := (I2, J, sm_rf t d)) rfl trivial ?_
      cases h
      exact sm_W.ret (sm_C_mono D) rfl hQ
  · skip
    refine sm_W.run (sm_C_mono D) 3 (G := True) (fr' := (3, [some (.ref 3), some (.ref 55), some (.int x2), none, none], [.int x2, .ref 55, .ref 3], 0, 0)) (M' := (I, J, sm_rf t d)) rfl trivial ?_
    obtain ⟨r1, I2, hc, h⟩ := sd_q2_go h
    refine sm_W.cal (sm_C_mono D) (y := 46) (as := [.ref 3, .ref 55, .int x2]) (fr' := (4, [some (.ref 3), some (.ref 55), some (.int x2), none, none], [], 0, 0)) rfl (T_Reader_readSum (by omega) (by decide) hE (by omega) hc ?_)
    show sm_W sm_sh X (sm_C sm_sh X sm_P D) me_45 Q (4, [some (.ref 3), some (.ref 55), some (.int x2), none, none], [.int r1], 0, 0) (I2, J, sm_rf t d)
    refine sm_W.run (sm_C_mono D) 1 (G := True) (fr' := (if decide (¬ r1 = 0) = true then 7 else 5, [some (.ref 3), some (.ref 55), some (.int x2), none, none], [], 0, 0)) (M' := (I2, J, sm_rf t d)) rfl trivial (sm_W.iteD h (fun hc h => ?_) (fun hc h => ?_))
    · refine sm_W.run (sm_C_mono D) 2 (G := True) (fr' := (9, [some (.ref 3), some (.ref 55), some (.int x2), none, none], [.int (60 : Int32), .ref 3], 0, 0)) (M' := (I2, J, sm_rf t d)) rfl trivial ?_
      obtain ⟨r3, hc, h⟩ := sd_q1_go h
      refine sm_W.cal (sm_C_mono D) (y := 30) (as := [.ref 3, .int (60 : Int32)]) (fr' := (10, [some (.ref 3), some (.ref 55), some (.int x2), none, none], [], 0, 0)) rfl (T_Reader_atSign (by omega) hc ?_)
      show sm_W sm_sh X (sm_C sm_sh X sm_P D) me_45 Q (10, [some (.ref 3), some (.ref 55), some (.int x2), none, none], [.int r3], 0, 0) (I2, J, sm_rf t d)
      refine sm_W.run (sm_C_mono D) 3 (G := True) (fr' := (if decide (¬ r3 = 0) = true then 19 else 13, [some (.ref 3), some (.ref 55), some (.int x2), some (.int r3), none], [], 0, 0)) (M' := (I2, J, sm_rf t d)) rfl trivial (sm_W.iteD h (fun hc h => ?_) (fun hc h => ?_))
      · exact (G_Reader_readTest_19 hD (by decide) hE hDE h hQ)
      · refine sm_W.run (sm_C_mono D) 2 (G := True) (fr' := (15, [some (.ref 3), some (.ref 55), some (.int x2), some (.int r3), none], [.int (61 : Int32), .ref 3], 0, 0)) (M' := (I2, J, sm_rf t d)) rfl trivial ?_
        obtain ⟨r4, hc, h⟩ := sd_q1_go h
        refine sm_W.cal (sm_C_mono D) (y := 30) (as := [.ref 3, .int (61 : Int32)]) (fr' := (16, [some (.ref 3), some (.ref 55), some (.int x2), some (.int r3), none], [], 0, 0)) rfl (T_Reader_atSign (by omega) hc ?_)
        show sm_W sm_sh X (sm_C sm_sh X sm_P D) me_45 Q (16, [some (.ref 3), some (.ref 55), some (.int x2), some (.int r3), none], [.int r4], 0, 0) (I2, J, sm_rf t d)
        refine sm_W.run (sm_C_mono D) 1 (G := True) (fr' := (if decide (¬ r4 = 0) = true then 19 else 17, [some (.ref 3), some (.ref 55), some (.int x2), some (.int r3), none], [], 0, 0)) (M' := (I2, J, sm_rf t d)) rfl trivial (sm_W.iteD h (fun hc h => ?_) (fun hc h => ?_))
        · exact (G_Reader_readTest_19 hD (by decide) hE hDE h hQ)
        · refine sm_W.run (sm_C_mono D) 1 (G := True) (fr' := (18, [some (.ref 3), some (.ref 55), some (.int x2), some (.int r3), none], [.int (1 : Int32)], 0, 0)) (M' := (I2, J, sm_rf t d)) rfl trivial ?_
          cases h
          exact sm_W.ret (sm_C_mono D) rfl hQ
    · refine sm_W.run (sm_C_mono D) 1 (G := True) (fr' := (6, [some (.ref 3), some (.ref 55), some (.int x2), none, none], [.int (0 : Int32)], 0, 0)) (M' := (I2, J, sm_rf t d)) rfl trivial ?_
      cases h
      exact sm_W.ret (sm_C_mono D) rfl hQ
theorem T_Reader_readTest {X : Nat × (Nat → Int32)} {t d D DE : Nat} {Q : sm_Q} {I : sm_MI} {J : sm_MJ} {p1 : Nat} {kE : Nat → Int32 → sm_MI → Option (Int32 × sm_MI)} {x2 : Int32} {rz : Int32} {Iz : sm_MI}
    (hD : 7 ≤ D) (hp : (p1 = 35) ∨ (p1 = 55)) (hE : ∀ (r : Nat) (x : Int32) (I : sm_MI) (v : Int32) (I9 : sm_MI) (Q : sm_Q), (r = 35 ∨ r = 55) → kE r x I = some (v, I9) → Q (.inl (some (.int v))) (I9, J, sm_rf t d) → sm_C sm_sh X sm_P DE 42 [.ref 3, .ref r, .int x] (I, J, sm_rf t d) Q) (hDE : DE + 4 ≤ D) (h : F_Reader_readTest p1 kE x2 I = some (rz, Iz)) (hQ : Q (.inl (some (.int rz))) (Iz, J, sm_rf t d)) : sm_C sm_sh X sm_P D 45 [.ref 3, .ref p1, .int x2] (I, J, sm_rf t d) Q := by
  cases D with
  | zero => omega
  | succ D => exact sm_C.of (me := me_45) (L := [some (.ref 3), some (.ref p1), some (.int x2), none, none]) rfl rfl rfl (sm_W.forget (L' := [some (.ref 3), some (.ref p1), some (.int x2), none, none]) ⟨rfl, ⟨rfl, ⟨rfl, trivial⟩⟩⟩ (G_Reader_readTest (by omega) hp hE (by omega) h hQ))
-- 44 Reader_readNot
noncomputable def F_Reader_readNot_31B (p1 : Nat) (kE : Nat → Int32 → sm_MI → Option (Int32 × sm_MI)) (k31 : Int32 → Int32 → Int32 → sm_MI → Option (Int32 × sm_MI)) (x3 : Int32) (x4 : Int32) (x5 : Int32) (I : sm_MI) : Option (Int32 × sm_MI) :=
  if x3 ≤ x5 then
    some ((vp_nar .boolean x4), I)
  else
    sd_q1 (F_Rules_add p1 (20002 : Int32) I) fun I1 =>
    k31 x3 x4 (x5 + (1 : Int32)) I1
noncomputable def F_Reader_readNot_31 (p1 : Nat) (kE : Nat → Int32 → sm_MI → Option (Int32 × sm_MI)) (n : Nat) : Int32 → Int32 → Int32 → sm_MI → Option (Int32 × sm_MI) :=
  sd_fix (fun k x3 x4 x5 I => F_Reader_readNot_31B p1 kE k x3 x4 x5 I) (fun _ _ _ _ => none) n
noncomputable def F_Reader_readNot_24 (p1 : Nat) (kE : Nat → Int32 → sm_MI → Option (Int32 × sm_MI)) (x2 : Int32) (x3 : Int32) (I : sm_MI) : Option (Int32 × sm_MI) :=
  sd_q2 (F_Reader_readTest p1 kE x2 I) fun r1 I2 =>
  F_Reader_readNot_31 p1 kE sd_fu x3 r1 (0 : Int32) I2
noncomputable def F_Reader_readNot_13 (p1 : Nat) (kE : Nat → Int32 → sm_MI → Option (Int32 × sm_MI)) (x2 : Int32) (x3 : Int32) (I : sm_MI) : Option (Int32 × sm_MI) :=
  if ¬ (I 3 2) = (13 : Int32) then
    F_Reader_readNot_24 p1 kE x2 x3 I
  else
    if ¬ x3 = (6 : Int32) then
      F_Reader_readNot_24 p1 kE x2 x3 I
    else
      sd_q2 (F_Reader_fail (2 : Int32) I) fun r1 I2 =>
      some ((vp_nar .boolean r1), I2)
noncomputable def F_Reader_readNot_2B (p1 : Nat) (kE : Nat → Int32 → sm_MI → Option (Int32 × sm_MI)) (k2 : Int32 → Int32 → sm_MI → Option (Int32 × sm_MI)) (x2 : Int32) (x3 : Int32) (I : sm_MI) : Option (Int32 × sm_MI) :=
  if (6 : Int32) ≤ x3 then
    F_Reader_readNot_13 p1 kE x2 x3 I
  else
    if ¬ (I 3 2) = (13 : Int32) then
      F_Reader_readNot_13 p1 kE x2 x3 I
    else
      sd_q1 (F_Reader_step I) fun I1 =>
      k2 x2 (x3 + (1 : Int32)) I1
noncomputable def F_Reader_readNot_2 (p1 : Nat) (kE : Nat → Int32 → sm_MI → Option (Int32 × sm_MI)) (n : Nat) : Int32 → Int32 → sm_MI → Option (Int32 × sm_MI) :=
  sd_fix (fun k x2 x3 I => F_Reader_readNot_2B p1 kE k x2 x3 I) (fun _ _ _ => none) n
noncomputable def F_Reader_readNot (p1 : Nat) (kE : Nat → Int32 → sm_MI → Option (Int32 × sm_MI)) (x2 : Int32) (I : sm_MI) : Option (Int32 × sm_MI) :=
  F_Reader_readNot_2 p1 kE sd_fu x2 (0 : Int32) I
theorem G_Reader_readNot_31B {X : Nat × (Nat → Int32)} {t d D DE : Nat} {Q : sm_Q} {I : sm_MI} {J : sm_MJ} {p1 : Nat} {kE : Nat → Int32 → sm_MI → Option (Int32 × sm_MI)} {k31 : Int32 → Int32 → Int32 → sm_MI → Option (Int32 × sm_MI)} {x3 : Int32} {x4 : Int32} {x5 : Int32} {rz : Int32} {Iz : sm_MI}
    (hD : 7 ≤ D) (hp : (p1 = 35) ∨ (p1 = 55)) (hE : ∀ (r : Nat) (x : Int32) (I : sm_MI) (v : Int32) (I9 : sm_MI) (Q : sm_Q), (r = 35 ∨ r = 55) → kE r x I = some (v, I9) → Q (.inl (some (.int v))) (I9, J, sm_rf t d) → sm_C sm_sh X sm_P DE 42 [.ref 3, .ref r, .int x] (I, J, sm_rf t d) Q) (hDE : DE + 4 ≤ D) (h : F_Reader_readNot_31B p1 kE k31 x3 x4 x5 I = some (rz, Iz)) (hQ : Q (.inl (some (.int rz))) (Iz, J, sm_rf t d)) (hk31 : ∀ (x3 : Int32) (x4 : Int32) (x5 : Int32) (I : sm_MI), k31 x3 x4 x5 I = some (rz, Iz) → sm_W sm_sh X (sm_C sm_sh X sm_P D) me_44 Q (31, [none, some (.ref p1), none, some (.int x3), some (.int x4), some (.int x5)], [], 0, 0) (I, J, sm_rf t d)) : sm_W sm_sh X (sm_C sm_sh X sm_P D) me_44 Q (31, [none, some (.ref p1), none, some (.int x3), some (.int x4), some (.int x5)], [], 0, 0) (I, J, sm_rf t d) := by
  unfold F_Reader_readNot_31B at h
  rcases hp with rfl | rfl
  · skip
    refine sm_W.run (sm_C_mono D) 3 (G := True) (fr' := (if decide (x3 ≤ x5) = true then 39 else 34, [none, some (.ref 35), none, some (.int x3), some (.int x4), some (.int x5)], [], 0, 0)) (M' := (I, J, sm_rf t d)) rfl trivial (sm_W.iteD h (fun hc h => ?_) (fun hc h => ?_))
    · refine sm_W.run (sm_C_mono D) 1 (G := True) (fr' := (40, [none, some (.ref 35), none, some (.int x3), some (.int x4), some (.int x5)], [.int x4], 0, 0)) (M' := (I, J, sm_rf t d)) rfl trivial ?_
      cases h
      exact sm_W.ret (sm_C_mono D) rfl hQ
    · refine sm_W.run (sm_C_mono D) 2 (G := True) (fr' := (36, [none, some (.ref 35), none, some (.int x3), some (.int x4), some (.int x5)], [.int (20002 : Int32), .ref 35], 0, 0)) (M' := (I, J, sm_rf t d)) rfl trivial ?_
      obtain ⟨I1, hc, h⟩ := sd_q1_go h
      refine sm_W.cal (sm_C_mono D) (y := 52) (as := [.ref 35, .int (20002 : Int32)]) (fr' := (37, [none, some (.ref 35), none, some (.int x3), some (.int x4), some (.int x5)], [], 0, 0)) rfl (T_Rules_add (by omega) (by decide) hc ?_)
      show sm_W sm_sh X (sm_C sm_sh X sm_P D) me_44 Q (37, [none, some (.ref 35), none, some (.int x3), some (.int x4), some (.int x5)], [], 0, 0) (I1, J, sm_rf t d)
      refine sm_W.run (sm_C_mono D) 2 (G := True) (fr' := (31, [none, some (.ref 35), none, some (.int x3), some (.int x4), some (.int (x5 + (1 : Int32)))], [], 0, 0)) (M' := (I1, J, sm_rf t d)) rfl trivial ?_
      exact (hk31 _ _ _ _ h)
  · skip
    refine sm_W.run (sm_C_mono D) 3 (G := True) (fr' := (if decide (x3 ≤ x5) = true then 39 else 34, [none, some (.ref 55), none, some (.int x3), some (.int x4), some (.int x5)], [], 0, 0)) (M' := (I, J, sm_rf t d)) rfl trivial (sm_W.iteD h (fun hc h => ?_) (fun hc h => ?_))
    · refine sm_W.run (sm_C_mono D) 1 (G := True) (fr' := (40, [none, some (.ref 55), none, some (.int x3), some (.int x4), some (.int x5)], [.int x4], 0, 0)) (M' := (I, J, sm_rf t d)) rfl trivial ?_
      cases h
      exact sm_W.ret (sm_C_mono D) rfl hQ
    · refine sm_W.run (sm_C_mono D) 2 (G := True) (fr' := (36, [none, some (.ref 55), none, some (.int x3), some (.int x4), some (.int x5)], [.int (20002 : Int32), .ref 55], 0, 0)) (M' := (I, J, sm_rf t d)) rfl trivial ?_
      obtain ⟨I1, hc, h⟩ := sd_q1_go h
      refine sm_W.cal (sm_C_mono D) (y := 52) (as := [.ref 55, .int (20002 : Int32)]) (fr' := (37, [none, some (.ref 55), none, some (.int x3), some (.int x4), some (.int x5)], [], 0, 0)) rfl (T_Rules_add (by omega) (by decide) hc ?_)
      show sm_W sm_sh X (sm_C sm_sh X sm_P D) me_44 Q (37, [none, some (.ref 55), none, some (.int x3), some (.int x4), some (.int x5)], [], 0, 0) (I1, J, sm_rf t d)
      refine sm_W.run (sm_C_mono D) 2 (G := True) (fr' := (31, [none, some (.ref 55), none, some (.int x3), some (.int x4), some (.int (x5 + (1 : Int32)))], [], 0, 0)) (M' := (I1, J, sm_rf t d)) rfl trivial ?_
      exact (hk31 _ _ _ _ h)
theorem G_Reader_readNot_31 {X : Nat × (Nat → Int32)} {t d D DE : Nat} {Q : sm_Q} {J : sm_MJ} {p1 : Nat} {kE : Nat → Int32 → sm_MI → Option (Int32 × sm_MI)} {rz : Int32} {Iz : sm_MI}
    (hD : 7 ≤ D) (hp : (p1 = 35) ∨ (p1 = 55)) (hE : ∀ (r : Nat) (x : Int32) (I : sm_MI) (v : Int32) (I9 : sm_MI) (Q : sm_Q), (r = 35 ∨ r = 55) → kE r x I = some (v, I9) → Q (.inl (some (.int v))) (I9, J, sm_rf t d) → sm_C sm_sh X sm_P DE 42 [.ref 3, .ref r, .int x] (I, J, sm_rf t d) Q) (hDE : DE + 4 ≤ D) (hQ : Q (.inl (some (.int rz))) (Iz, J, sm_rf t d))  : ∀ (n : Nat) (x3 : Int32) (x4 : Int32) (x5 : Int32) (I : sm_MI), F_Reader_readNot_31 p1 kE n x3 x4 x5 I = some (rz, Iz) → sm_W sm_sh X (sm_C sm_sh X sm_P D) me_44 Q (31, [none, some (.ref p1), none, some (.int x3), some (.int x4), some (.int x5)], [], 0, 0) (I, J, sm_rf t d) := by
  intro n
  induction n with
  | zero => intro x3 x4 x5 I h; cases (show (none : Option (Int32 × sm_MI)) = some (rz, Iz) from h)
  | succ n ih => intro x3 x4 x5 I h; exact G_Reader_readNot_31B hD hp hE hDE (show F_Reader_readNot_31B p1 kE (F_Reader_readNot_31 p1 kE n) x3 x4 x5 I = some (rz, Iz) from h) hQ  ih
theorem G_Reader_readNot_24 {X : Nat × (Nat → Int32)} {t d D DE : Nat} {Q : sm_Q} {I : sm_MI} {J : sm_MJ} {p1 : Nat} {kE : Nat → Int32 → sm_MI → Option (Int32 × sm_MI)} {x2 : Int32} {x3 : Int32} {rz : Int32} {Iz : sm_MI}
    (hD : 7 ≤ D) (hp : (p1 = 35) ∨ (p1 = 55)) (hE : ∀ (r : Nat) (x : Int32) (I : sm_MI) (v : Int32) (I9 : sm_MI) (Q : sm_Q), (r = 35 ∨ r = 55) → kE r x I = some (v, I9) → Q (.inl (some (.int v))) (I9, J, sm_rf t d) → sm_C sm_sh X sm_P DE 42 [.ref 3, .ref r, .int x] (I, J, sm_rf t d) Q) (hDE : DE + 4 ≤ D) (h : F_Reader_readNot_24 p1 kE x2 x3 I = some (rz, Iz)) (hQ : Q (.inl (some (.int rz))) (Iz, J, sm_rf t d))  : sm_W sm_sh X (sm_C sm_sh X sm_P D) me_44 Q (24, [some (.ref 3), some (.ref p1), some (.int x2), some (.int x3), none, none], [], 0, 0) (I, J, sm_rf t d) := by
  unfold F_Reader_readNot_24 at h
  rcases hp with rfl | rfl
  · skip
    refine sm_W.run (sm_C_mono D) 3 (G := True) (fr' := (27, [some (.ref 3), some (.ref 35), some (.int x2), some (.int x3), none, none], [.int x2, .ref 35, .ref 3], 0, 0)) (M' := (I, J, sm_rf t d)) rfl trivial ?_
    obtain ⟨r1, I2, hc, h⟩ := sd_q2_go h
    refine sm_W.cal (sm_C_mono D) (y := 45) (as := [.ref 3, .ref 35, .int x2]) (fr' := (28, [some (.ref 3), some (.ref 35), some (.int x2), some (.int x3), none, none], [], 0, 0)) rfl (T_Reader_readTest (by omega) (by decide) hE (by omega) hc ?_)
    show sm_W sm_sh X (sm_C sm_sh X sm_P D) me_44 Q (28, [some (.ref 3), some (.ref 35), some (.int x2), some (.int x3), none, none], [.int r1], 0, 0) (I2, J, sm_rf t d)
    refine sm_W.run (sm_C_mono D) 3 (G := True) (fr' := (31, [some (.ref 3), some (.ref 35), some (.int x2), some (.int x3), some (.int r1), some (.int (0 : Int32))], [], 0, 0)) (M' := (I2, J, sm_rf t d)) rfl trivial ?_
    exact sm_W.forget (L' := [none, some (.ref 35), none, some (.int x3), some (.int r1), some (.int (0 : Int32))]) ⟨rfl, ⟨rfl, ⟨rfl, ⟨rfl, trivial⟩⟩⟩⟩ (G_Reader_readNot_31 hD (by decide) hE hDE hQ sd_fu _ _ _ _ h)
  · skip
    refine sm_W.run (sm_C_mono D) 3 (G := True) (fr' := (27, [some (.ref 3), some (.ref 55), some (.int x2), some (.int x3), none, none], [.int x2, .ref 55, .ref 3], 0, 0)) (M' := (I, J, sm_rf t d)) rfl trivial ?_
    obtain ⟨r1, I2, hc, h⟩ := sd_q2_go h
    refine sm_W.cal (sm_C_mono D) (y := 45) (as := [.ref 3, .ref 55, .int x2]) (fr' := (28, [some (.ref 3), some (.ref 55), some (.int x2), some (.int x3), none, none], [], 0, 0)) rfl (T_Reader_readTest (by omega) (by decide) hE (by omega) hc ?_)
    show sm_W sm_sh X (sm_C sm_sh X sm_P D) me_44 Q (28, [some (.ref 3), some (.ref 55), some (.int x2), some (.int x3), none, none], [.int r1], 0, 0) (I2, J, sm_rf t d)
    refine sm_W.run (sm_C_mono D) 3 (G := True) (fr' := (31, [some (.ref 3), some (.ref 55), some (.int x2), some (.int x3), some (.int r1), some (.int (0 : Int32))], [], 0, 0)) (M' := (I2, J, sm_rf t d)) rfl trivial ?_
    exact sm_W.forget (L' := [none, some (.ref 55), none, some (.int x3), some (.int r1), some (.int (0 : Int32))]) ⟨rfl, ⟨rfl, ⟨rfl, ⟨rfl, trivial⟩⟩⟩⟩ (G_Reader_readNot_31 hD (by decide) hE hDE hQ sd_fu _ _ _ _ h)
theorem G_Reader_readNot_13 {X : Nat × (Nat → Int32)} {t d D DE : Nat} {Q : sm_Q} {I : sm_MI} {J : sm_MJ} {p1 : Nat} {kE : Nat → Int32 → sm_MI → Option (Int32 × sm_MI)} {x2 : Int32} {x3 : Int32} {rz : Int32} {Iz : sm_MI}
    (hD : 7 ≤ D) (hp : (p1 = 35) ∨ (p1 = 55)) (hE : ∀ (r : Nat) (x : Int32) (I : sm_MI) (v : Int32) (I9 : sm_MI) (Q : sm_Q), (r = 35 ∨ r = 55) → kE r x I = some (v, I9) → Q (.inl (some (.int v))) (I9, J, sm_rf t d) → sm_C sm_sh X sm_P DE 42 [.ref 3, .ref r, .int x] (I, J, sm_rf t d) Q) (hDE : DE + 4 ≤ D) (h : F_Reader_readNot_13 p1 kE x2 x3 I = some (rz, Iz)) (hQ : Q (.inl (some (.int rz))) (Iz, J, sm_rf t d))  : sm_W sm_sh X (sm_C sm_sh X sm_P D) me_44 Q (13, [some (.ref 3), some (.ref p1), some (.int x2), some (.int x3), none, none], [], 0, 0) (I, J, sm_rf t d) := by
  unfold F_Reader_readNot_13 at h
  rcases hp with rfl | rfl
  · skip
    refine sm_W.run (sm_C_mono D) 4 (G := True) (fr' := (if decide (¬ (I 3 2) = (13 : Int32)) = true then 24 else 17, [some (.ref 3), some (.ref 35), some (.int x2), some (.int x3), none, none], [], 0, 0)) (M' := (I, J, sm_rf t d)) rfl trivial (sm_W.iteD h (fun hc h => ?_) (fun hc h => ?_))
    · exact (G_Reader_readNot_24 hD (by decide) hE hDE h hQ)
    · refine sm_W.run (sm_C_mono D) 3 (G := True) (fr' := (if decide (¬ x3 = (6 : Int32)) = true then 24 else 20, [some (.ref 3), some (.ref 35), some (.int x2), some (.int x3), none, none], [], 0, 0)) (M' := (I, J, sm_rf t d)) rfl trivial (sm_W.iteD h (fun hc h => ?_) (fun hc h => ?_))
      · exact (G_Reader_readNot_24 hD (by decide) hE hDE h hQ)
      · refine sm_W.run (sm_C_mono D) 2 (G := True) (fr' := (22, [some (.ref 3), some (.ref 35), some (.int x2), some (.int x3), none, none], [.int (2 : Int32), .ref 3], 0, 0)) (M' := (I, J, sm_rf t d)) rfl trivial ?_
        obtain ⟨r1, I2, hc, h⟩ := sd_q2_go h
        refine sm_W.cal (sm_C_mono D) (y := 28) (as := [.ref 3, .int (2 : Int32)]) (fr' := (23, [some (.ref 3), some (.ref 35), some (.int x2), some (.int x3), none, none], [], 0, 0)) rfl (T_Reader_fail (by omega) hc ?_)
        show sm_W sm_sh X (sm_C sm_sh X sm_P D) me_44 Q (23, [some (.ref 3), some (.ref 35), some (.int x2), some (.int x3), none, none], [.int r1], 0, 0) (I2, J, sm_rf t d)
        cases h
        exact sm_W.ret (sm_C_mono D) rfl hQ
  · skip
    refine sm_W.run (sm_C_mono D) 4 (G := True) (fr' := (if decide (¬ (I 3 2) = (13 : Int32)) = true then 24 else 17, [some (.ref 3), some (.ref 55), some (.int x2), some (.int x3), none, none], [], 0, 0)) (M' := (I, J, sm_rf t d)) rfl trivial (sm_W.iteD h (fun hc h => ?_) (fun hc h => ?_))
    · exact (G_Reader_readNot_24 hD (by decide) hE hDE h hQ)
    · refine sm_W.run (sm_C_mono D) 3 (G := True) (fr' := (if decide (¬ x3 = (6 : Int32)) = true then 24 else 20, [some (.ref 3), some (.ref 55), some (.int x2), some (.int x3), none, none], [], 0, 0)) (M' := (I, J, sm_rf t d)) rfl trivial (sm_W.iteD h (fun hc h => ?_) (fun hc h => ?_))
      · exact (G_Reader_readNot_24 hD (by decide) hE hDE h hQ)
      · refine sm_W.run (sm_C_mono D) 2 (G := True) (fr' := (22, [some (.ref 3), some (.ref 55), some (.int x2), some (.int x3), none, none], [.int (2 : Int32), .ref 3], 0, 0)) (M' := (I, J, sm_rf t d)) rfl trivial ?_
        obtain ⟨r1, I2, hc, h⟩ := sd_q2_go h
        refine sm_W.cal (sm_C_mono D) (y := 28) (as := [.ref 3, .int (2 : Int32)]) (fr' := (23, [some (.ref 3), some (.ref 55), some (.int x2), some (.int x3), none, none], [], 0, 0)) rfl (T_Reader_fail (by omega) hc ?_)
        show sm_W sm_sh X (sm_C sm_sh X sm_P D) me_44 Q (23, [some (.ref 3), some (.ref 55), some (.int x2), some (.int x3), none, none], [.int r1], 0, 0) (I2, J, sm_rf t d)
        cases h
        exact sm_W.ret (sm_C_mono D) rfl hQ
theorem G_Reader_readNot_2B {X : Nat × (Nat → Int32)} {t d D DE : Nat} {Q : sm_Q} {I : sm_MI} {J : sm_MJ} {p1 : Nat} {kE : Nat → Int32 → sm_MI → Option (Int32 × sm_MI)} {k2 : Int32 → Int32 → sm_MI → Option (Int32 × sm_MI)} {x2 : Int32} {x3 : Int32} {rz : Int32} {Iz : sm_MI}
    (hD : 7 ≤ D) (hp : (p1 = 35) ∨ (p1 = 55)) (hE : ∀ (r : Nat) (x : Int32) (I : sm_MI) (v : Int32) (I9 : sm_MI) (Q : sm_Q), (r = 35 ∨ r = 55) → kE r x I = some (v, I9) → Q (.inl (some (.int v))) (I9, J, sm_rf t d) → sm_C sm_sh X sm_P DE 42 [.ref 3, .ref r, .int x] (I, J, sm_rf t d) Q) (hDE : DE + 4 ≤ D) (h : F_Reader_readNot_2B p1 kE k2 x2 x3 I = some (rz, Iz)) (hQ : Q (.inl (some (.int rz))) (Iz, J, sm_rf t d)) (hk2 : ∀ (x2 : Int32) (x3 : Int32) (I : sm_MI), k2 x2 x3 I = some (rz, Iz) → sm_W sm_sh X (sm_C sm_sh X sm_P D) me_44 Q (2, [some (.ref 3), some (.ref p1), some (.int x2), some (.int x3), none, none], [], 0, 0) (I, J, sm_rf t d)) : sm_W sm_sh X (sm_C sm_sh X sm_P D) me_44 Q (2, [some (.ref 3), some (.ref p1), some (.int x2), some (.int x3), none, none], [], 0, 0) (I, J, sm_rf t d) := by
  unfold F_Reader_readNot_2B at h
  rcases hp with rfl | rfl
  · skip
    refine sm_W.run (sm_C_mono D) 3 (G := True) (fr' := (if decide ((6 : Int32) ≤ x3) = true then 13 else 5, [some (.ref 3), some (.ref 35), some (.int x2), some (.int x3), none, none], [], 0, 0)) (M' := (I, J, sm_rf t d)) rfl trivial (sm_W.iteD h (fun hc h => ?_) (fun hc h => ?_))
    · exact (G_Reader_readNot_13 hD (by decide) hE hDE h hQ)
    · refine sm_W.run (sm_C_mono D) 4 (G := True) (fr' := (if decide (¬ (I 3 2) = (13 : Int32)) = true then 13 else 9, [some (.ref 3), some (.ref 35), some (.int x2), some (.int x3), none, none], [], 0, 0)) (M' := (I, J, sm_rf t d)) rfl trivial (sm_W.iteD h (fun hc h => ?_) (fun hc h => ?_))
      · exact (G_Reader_readNot_13 hD (by decide) hE hDE h hQ)
      · refine sm_W.run (sm_C_mono D) 1 (G := True) (fr' := (10, [some (.ref 3), some (.ref 35), some (.int x2), some (.int x3), none, none], [.ref 3], 0, 0)) (M' := (I, J, sm_rf t d)) rfl trivial ?_
        obtain ⟨I1, hc, h⟩ := sd_q1_go h
        refine sm_W.cal (sm_C_mono D) (y := 29) (as := [.ref 3]) (fr' := (11, [some (.ref 3), some (.ref 35), some (.int x2), some (.int x3), none, none], [], 0, 0)) rfl (T_Reader_step (by omega) hc ?_)
        show sm_W sm_sh X (sm_C sm_sh X sm_P D) me_44 Q (11, [some (.ref 3), some (.ref 35), some (.int x2), some (.int x3), none, none], [], 0, 0) (I1, J, sm_rf t d)
        refine sm_W.run (sm_C_mono D) 2 (G := True) (fr' := (2, [some (.ref 3), some (.ref 35), some (.int x2), some (.int (x3 + (1 : Int32))), none, none], [], 0, 0)) (M' := (I1, J, sm_rf t d)) rfl trivial ?_
        exact (hk2 _ _ _ h)
  · skip
    refine sm_W.run (sm_C_mono D) 3 (G := True) (fr' := (if decide ((6 : Int32) ≤ x3) = true then 13 else 5, [some (.ref 3), some (.ref 55), some (.int x2), some (.int x3), none, none], [], 0, 0)) (M' := (I, J, sm_rf t d)) rfl trivial (sm_W.iteD h (fun hc h => ?_) (fun hc h => ?_))
    · exact (G_Reader_readNot_13 hD (by decide) hE hDE h hQ)
    · refine sm_W.run (sm_C_mono D) 4 (G := True) (fr' := (if decide (¬ (I 3 2) = (13 : Int32)) = true then 13 else 9, [some (.ref 3), some (.ref 55), some (.int x2), some (.int x3), none, none], [], 0, 0)) (M' := (I, J, sm_rf t d)) rfl trivial (sm_W.iteD h (fun hc h => ?_) (fun hc h => ?_))
      · exact (G_Reader_readNot_13 hD (by decide) hE hDE h hQ)
      · refine sm_W.run (sm_C_mono D) 1 (G := True) (fr' := (10, [some (.ref 3), some (.ref 55), some (.int x2), some (.int x3), none, none], [.ref 3], 0, 0)) (M' := (I, J, sm_rf t d)) rfl trivial ?_
        obtain ⟨I1, hc, h⟩ := sd_q1_go h
        refine sm_W.cal (sm_C_mono D) (y := 29) (as := [.ref 3]) (fr' := (11, [some (.ref 3), some (.ref 55), some (.int x2), some (.int x3), none, none], [], 0, 0)) rfl (T_Reader_step (by omega) hc ?_)
        show sm_W sm_sh X (sm_C sm_sh X sm_P D) me_44 Q (11, [some (.ref 3), some (.ref 55), some (.int x2), some (.int x3), none, none], [], 0, 0) (I1, J, sm_rf t d)
        refine sm_W.run (sm_C_mono D) 2 (G := True) (fr' := (2, [some (.ref 3), some (.ref 55), some (.int x2), some (.int (x3 + (1 : Int32))), none, none], [], 0, 0)) (M' := (I1, J, sm_rf t d)) rfl trivial ?_
        exact (hk2 _ _ _ h)
theorem G_Reader_readNot_2 {X : Nat × (Nat → Int32)} {t d D DE : Nat} {Q : sm_Q} {J : sm_MJ} {p1 : Nat} {kE : Nat → Int32 → sm_MI → Option (Int32 × sm_MI)} {rz : Int32} {Iz : sm_MI}
    (hD : 7 ≤ D) (hp : (p1 = 35) ∨ (p1 = 55)) (hE : ∀ (r : Nat) (x : Int32) (I : sm_MI) (v : Int32) (I9 : sm_MI) (Q : sm_Q), (r = 35 ∨ r = 55) → kE r x I = some (v, I9) → Q (.inl (some (.int v))) (I9, J, sm_rf t d) → sm_C sm_sh X sm_P DE 42 [.ref 3, .ref r, .int x] (I, J, sm_rf t d) Q) (hDE : DE + 4 ≤ D) (hQ : Q (.inl (some (.int rz))) (Iz, J, sm_rf t d))  : ∀ (n : Nat) (x2 : Int32) (x3 : Int32) (I : sm_MI), F_Reader_readNot_2 p1 kE n x2 x3 I = some (rz, Iz) → sm_W sm_sh X (sm_C sm_sh X sm_P D) me_44 Q (2, [some (.ref 3), some (.ref p1), some (.int x2), some (.int x3), none, none], [], 0, 0) (I, J, sm_rf t d) := by
  intro n
  induction n with
  | zero => intro x2 x3 I h; cases (show (none : Option (Int32 × sm_MI)) = some (rz, Iz) from h)
  | succ n ih => intro x2 x3 I h; exact G_Reader_readNot_2B hD hp hE hDE (show F_Reader_readNot_2B p1 kE (F_Reader_readNot_2 p1 kE n) x2 x3 I = some (rz, Iz) from h) hQ  ih
theorem G_Reader_readNot {X : Nat × (Nat → Int32)} {t d D DE : Nat} {Q : sm_Q} {I : sm_MI} {J : sm_MJ} {p1 : Nat} {kE : Nat → Int32 → sm_MI → Option (Int32 × sm_MI)} {x2 : Int32} {rz : Int32} {Iz : sm_MI}
    (hD : 7 ≤ D) (hp : (p1 = 35) ∨ (p1 = 55)) (hE : ∀ (r : Nat) (x : Int32) (I : sm_MI) (v : Int32) (I9 : sm_MI) (Q : sm_Q), (r = 35 ∨ r = 55) → kE r x I = some (v, I9) → Q (.inl (some (.int v))) (I9, J, sm_rf t d) → sm_C sm_sh X sm_P DE 42 [.ref 3, .ref r, .int x] (I, J, sm_rf t d) Q) (hDE : DE + 4 ≤ D) (h : F_Reader_readNot p1 kE x2 I = some (rz, Iz)) (hQ : Q (.inl (some (.int rz))) (Iz, J, sm_rf t d))  : sm_W sm_sh X (sm_C sm_sh X sm_P D) me_44 Q (0, [some (.ref 3), some (.ref p1), some (.int x2), none, none, none], [], 0, 0) (I, J, sm_rf t d) := by
  unfold F_Reader_readNot at h
  rcases hp with rfl | rfl
  · skip
    refine sm_W.run (sm_C_mono D) 2 (G := True) (fr' := (2, [some (.ref 3), some (.ref 35), some (.int x2), some (.int (0 : Int32)), none, none], [], 0, 0)) (M' := (I, J, sm_rf t d)) rfl trivial ?_
    exact (G_Reader_readNot_2 hD (by decide) hE hDE hQ sd_fu _ _ _ h)
  · skip
    refine sm_W.run (sm_C_mono D) 2 (G := True) (fr' := (2, [some (.ref 3), some (.ref 55), some (.int x2), some (.int (0 : Int32)), none, none], [], 0, 0)) (M' := (I, J, sm_rf t d)) rfl trivial ?_
    exact (G_Reader_readNot_2 hD (by decide) hE hDE hQ sd_fu _ _ _ h)
theorem T_Reader_readNot {X : Nat × (Nat → Int32)} {t d D DE : Nat} {Q : sm_Q} {I : sm_MI} {J : sm_MJ} {p1 : Nat} {kE : Nat → Int32 → sm_MI → Option (Int32 × sm_MI)} {x2 : Int32} {rz : Int32} {Iz : sm_MI}
    (hD : 8 ≤ D) (hp : (p1 = 35) ∨ (p1 = 55)) (hE : ∀ (r : Nat) (x : Int32) (I : sm_MI) (v : Int32) (I9 : sm_MI) (Q : sm_Q), (r = 35 ∨ r = 55) → kE r x I = some (v, I9) → Q (.inl (some (.int v))) (I9, J, sm_rf t d) → sm_C sm_sh X sm_P DE 42 [.ref 3, .ref r, .int x] (I, J, sm_rf t d) Q) (hDE : DE + 5 ≤ D) (h : F_Reader_readNot p1 kE x2 I = some (rz, Iz)) (hQ : Q (.inl (some (.int rz))) (Iz, J, sm_rf t d)) : sm_C sm_sh X sm_P D 44 [.ref 3, .ref p1, .int x2] (I, J, sm_rf t d) Q := by
  cases D with
  | zero => omega
  | succ D => exact sm_C.of (me := me_44) (L := [some (.ref 3), some (.ref p1), some (.int x2), none, none, none]) rfl rfl rfl (sm_W.forget (L' := [some (.ref 3), some (.ref p1), some (.int x2), none, none, none]) ⟨rfl, ⟨rfl, ⟨rfl, trivial⟩⟩⟩ (G_Reader_readNot (by omega) hp hE (by omega) h hQ))
-- 43 Reader_readAnd
noncomputable def F_Reader_readAnd_7B (p1 : Nat) (kE : Nat → Int32 → sm_MI → Option (Int32 × sm_MI)) (k7 : Int32 → Int32 → Int32 → sm_MI → Option (Int32 × sm_MI)) (x2 : Int32) (x3 : Int32) (x4 : Int32) (I : sm_MI) : Option (Int32 × sm_MI) :=
  if (700 : Int32) ≤ x4 then
    some ((vp_nar .boolean x3), I)
  else
    if x3 = 0 then
      some ((vp_nar .boolean x3), I)
    else
      if ¬ (I 3 2) = (12 : Int32) then
        some ((vp_nar .boolean x3), I)
      else
        sd_q1 (F_Reader_step I) fun I1 =>
        sd_q2 (F_Reader_readNot p1 kE x2 I1) fun r2 I3 =>
        sd_q1 (F_Rules_add p1 (20001 : Int32) I3) fun I4 =>
        k7 x2 r2 (x4 + (1 : Int32)) I4
noncomputable def F_Reader_readAnd_7 (p1 : Nat) (kE : Nat → Int32 → sm_MI → Option (Int32 × sm_MI)) (n : Nat) : Int32 → Int32 → Int32 → sm_MI → Option (Int32 × sm_MI) :=
  sd_fix (fun k x2 x3 x4 I => F_Reader_readAnd_7B p1 kE k x2 x3 x4 I) (fun _ _ _ _ => none) n
noncomputable def F_Reader_readAnd (p1 : Nat) (kE : Nat → Int32 → sm_MI → Option (Int32 × sm_MI)) (x2 : Int32) (I : sm_MI) : Option (Int32 × sm_MI) :=
  sd_q2 (F_Reader_readNot p1 kE x2 I) fun r1 I2 =>
  F_Reader_readAnd_7 p1 kE sd_fu x2 r1 (0 : Int32) I2
theorem G_Reader_readAnd_7B {X : Nat × (Nat → Int32)} {t d D DE : Nat} {Q : sm_Q} {I : sm_MI} {J : sm_MJ} {p1 : Nat} {kE : Nat → Int32 → sm_MI → Option (Int32 × sm_MI)} {k7 : Int32 → Int32 → Int32 → sm_MI → Option (Int32 × sm_MI)} {x2 : Int32} {x3 : Int32} {x4 : Int32} {rz : Int32} {Iz : sm_MI}
    (hD : 8 ≤ D) (hp : (p1 = 35) ∨ (p1 = 55)) (hE : ∀ (r : Nat) (x : Int32) (I : sm_MI) (v : Int32) (I9 : sm_MI) (Q : sm_Q), (r = 35 ∨ r = 55) → kE r x I = some (v, I9) → Q (.inl (some (.int v))) (I9, J, sm_rf t d) → sm_C sm_sh X sm_P DE 42 [.ref 3, .ref r, .int x] (I, J, sm_rf t d) Q) (hDE : DE + 5 ≤ D) (h : F_Reader_readAnd_7B p1 kE k7 x2 x3 x4 I = some (rz, Iz)) (hQ : Q (.inl (some (.int rz))) (Iz, J, sm_rf t d)) (hk7 : ∀ (x2 : Int32) (x3 : Int32) (x4 : Int32) (I : sm_MI), k7 x2 x3 x4 I = some (rz, Iz) → sm_W sm_sh X (sm_C sm_sh X sm_P D) me_43 Q (7, [some (.ref 3), some (.ref p1), some (.int x2), some (.int x3), some (.int x4)], [], 0, 0) (I, J, sm_rf t d)) : sm_W sm_sh X (sm_C sm_sh X sm_P D) me_43 Q (7, [some (.ref 3), some (.ref p1), some (.int x2), some (.int x3), some (.int x4)], [], 0, 0) (I, J, sm_rf t d) := by
  unfold F_Reader_readAnd_7B at h
  rcases hp with rfl | rfl
  · skip
    refine sm_W.run (sm_C_mono D) 3 (G := True) (fr' := (if decide ((700 : Int32) ≤ x4) = true then 28 else 10, [some (.ref 3), some (.ref 35), some (.int x2), some (.int x3), some (.int x4)], [], 0, 0)) (M' := (I, J, sm_rf t d)) rfl trivial (sm_W.iteD h (fun hc h => ?_) (fun hc h => ?_))
    · refine sm_W.run (sm_C_mono D) 1 (G := True) (fr' := (29, [some (.ref 3), some (.ref 35), some (.int x2), some (.int x3), some (.int x4)], [.int x3], 0, 0)) (M' := (I, J, sm_rf t d)) rfl trivial ?_
      cases h
      exact sm_W.ret (sm_C_mono D) rfl hQ
    · refine sm_W.run (sm_C_mono D) 2 (G := True) (fr' := (if decide (x3 = 0) = true then 28 else 12, [some (.ref 3), some (.ref 35), some (.int x2), some (.int x3), some (.int x4)], [], 0, 0)) (M' := (I, J, sm_rf t d)) rfl trivial (sm_W.iteD h (fun hc h => ?_) (fun hc h => ?_))
      · refine sm_W.run (sm_C_mono D) 1 (G := True) (fr' := (29, [some (.ref 3), some (.ref 35), some (.int x2), some (.int x3), some (.int x4)], [.int x3], 0, 0)) (M' := (I, J, sm_rf t d)) rfl trivial ?_
        cases h
        exact sm_W.ret (sm_C_mono D) rfl hQ
      · refine sm_W.run (sm_C_mono D) 4 (G := True) (fr' := (if decide (¬ (I 3 2) = (12 : Int32)) = true then 28 else 16, [some (.ref 3), some (.ref 35), some (.int x2), some (.int x3), some (.int x4)], [], 0, 0)) (M' := (I, J, sm_rf t d)) rfl trivial (sm_W.iteD h (fun hc h => ?_) (fun hc h => ?_))
        · refine sm_W.run (sm_C_mono D) 1 (G := True) (fr' := (29, [some (.ref 3), some (.ref 35), some (.int x2), some (.int x3), some (.int x4)], [.int x3], 0, 0)) (M' := (I, J, sm_rf t d)) rfl trivial ?_
          cases h
          exact sm_W.ret (sm_C_mono D) rfl hQ
        · refine sm_W.run (sm_C_mono D) 1 (G := True) (fr' := (17, [some (.ref 3), some (.ref 35), some (.int x2), some (.int x3), some (.int x4)], [.ref 3], 0, 0)) (M' := (I, J, sm_rf t d)) rfl trivial ?_
          obtain ⟨I1, hc, h⟩ := sd_q1_go h
          refine sm_W.cal (sm_C_mono D) (y := 29) (as := [.ref 3]) (fr' := (18, [some (.ref 3), some (.ref 35), some (.int x2), some (.int x3), some (.int x4)], [], 0, 0)) rfl (T_Reader_step (by omega) hc ?_)
          show sm_W sm_sh X (sm_C sm_sh X sm_P D) me_43 Q (18, [some (.ref 3), some (.ref 35), some (.int x2), some (.int x3), some (.int x4)], [], 0, 0) (I1, J, sm_rf t d)
          refine sm_W.run (sm_C_mono D) 3 (G := True) (fr' := (21, [some (.ref 3), some (.ref 35), some (.int x2), some (.int x3), some (.int x4)], [.int x2, .ref 35, .ref 3], 0, 0)) (M' := (I1, J, sm_rf t d)) rfl trivial ?_
          obtain ⟨r2, I3, hc, h⟩ := sd_q2_go h
          refine sm_W.cal (sm_C_mono D) (y := 44) (as := [.ref 3, .ref 35, .int x2]) (fr' := (22, [some (.ref 3), some (.ref 35), some (.int x2), some (.int x3), some (.int x4)], [], 0, 0)) rfl (T_Reader_readNot (by omega) (by decide) hE (by omega) hc ?_)
          show sm_W sm_sh X (sm_C sm_sh X sm_P D) me_43 Q (22, [some (.ref 3), some (.ref 35), some (.int x2), some (.int x3), some (.int x4)], [.int r2], 0, 0) (I3, J, sm_rf t d)
          refine sm_W.run (sm_C_mono D) 3 (G := True) (fr' := (25, [some (.ref 3), some (.ref 35), some (.int x2), some (.int r2), some (.int x4)], [.int (20001 : Int32), .ref 35], 0, 0)) (M' := (I3, J, sm_rf t d)) rfl trivial ?_
          obtain ⟨I4, hc, h⟩ := sd_q1_go h
          refine sm_W.cal (sm_C_mono D) (y := 52) (as := [.ref 35, .int (20001 : Int32)]) (fr' := (26, [some (.ref 3), some (.ref 35), some (.int x2), some (.int r2), some (.int x4)], [], 0, 0)) rfl (T_Rules_add (by omega) (by decide) hc ?_)
          show sm_W sm_sh X (sm_C sm_sh X sm_P D) me_43 Q (26, [some (.ref 3), some (.ref 35), some (.int x2), some (.int r2), some (.int x4)], [], 0, 0) (I4, J, sm_rf t d)
          refine sm_W.run (sm_C_mono D) 2 (G := True) (fr' := (7, [some (.ref 3), some (.ref 35), some (.int x2), some (.int r2), some (.int (x4 + (1 : Int32)))], [], 0, 0)) (M' := (I4, J, sm_rf t d)) rfl trivial ?_
          exact (hk7 _ _ _ _ h)
  · skip
    refine sm_W.run (sm_C_mono D) 3 (G := True) (fr' := (if decide ((700 : Int32) ≤ x4) = true then 28 else 10, [some (.ref 3), some (.ref 55), some (.int x2), some (.int x3), some (.int x4)], [], 0, 0)) (M' := (I, J, sm_rf t d)) rfl trivial (sm_W.iteD h (fun hc h => ?_) (fun hc h => ?_))
    · refine sm_W.run (sm_C_mono D) 1 (G := True) (fr' := (29, [some (.ref 3), some (.ref 55), some (.int x2), some (.int x3), some (.int x4)], [.int x3], 0, 0)) (M' := (I, J, sm_rf t d)) rfl trivial ?_
      cases h
      exact sm_W.ret (sm_C_mono D) rfl hQ
    · refine sm_W.run (sm_C_mono D) 2 (G := True) (fr' := (if decide (x3 = 0) = true then 28 else 12, [some (.ref 3), some (.ref 55), some (.int x2), some (.int x3), some (.int x4)], [], 0, 0)) (M' := (I, J, sm_rf t d)) rfl trivial (sm_W.iteD h (fun hc h => ?_) (fun hc h => ?_))
      · refine sm_W.run (sm_C_mono D) 1 (G := True) (fr' := (29, [some (.ref 3), some (.ref 55), some (.int x2), some (.int x3), some (.int x4)], [.int x3], 0, 0)) (M' := (I, J, sm_rf t d)) rfl trivial ?_
        cases h
        exact sm_W.ret (sm_C_mono D) rfl hQ
      · refine sm_W.run (sm_C_mono D) 4 (G := True) (fr' := (if decide (¬ (I 3 2) = (12 : Int32)) = true then 28 else 16, [some (.ref 3), some (.ref 55), some (.int x2), some (.int x3), some (.int x4)], [], 0, 0)) (M' := (I, J, sm_rf t d)) rfl trivial (sm_W.iteD h (fun hc h => ?_) (fun hc h => ?_))
        · refine sm_W.run (sm_C_mono D) 1 (G := True) (fr' := (29, [some (.ref 3), some (.ref 55), some (.int x2), some (.int x3), some (.int x4)], [.int x3], 0, 0)) (M' := (I, J, sm_rf t d)) rfl trivial ?_
          cases h
          exact sm_W.ret (sm_C_mono D) rfl hQ
        · refine sm_W.run (sm_C_mono D) 1 (G := True) (fr' := (17, [some (.ref 3), some (.ref 55), some (.int x2), some (.int x3), some (.int x4)], [.ref 3], 0, 0)) (M' := (I, J, sm_rf t d)) rfl trivial ?_
          obtain ⟨I1, hc, h⟩ := sd_q1_go h
          refine sm_W.cal (sm_C_mono D) (y := 29) (as := [.ref 3]) (fr' := (18, [some (.ref 3), some (.ref 55), some (.int x2), some (.int x3), some (.int x4)], [], 0, 0)) rfl (T_Reader_step (by omega) hc ?_)
          show sm_W sm_sh X (sm_C sm_sh X sm_P D) me_43 Q (18, [some (.ref 3), some (.ref 55), some (.int x2), some (.int x3), some (.int x4)], [], 0, 0) (I1, J, sm_rf t d)
          refine sm_W.run (sm_C_mono D) 3 (G := True) (fr' := (21, [some (.ref 3), some (.ref 55), some (.int x2), some (.int x3), some (.int x4)], [.int x2, .ref 55, .ref 3], 0, 0)) (M' := (I1, J, sm_rf t d)) rfl trivial ?_
          obtain ⟨r2, I3, hc, h⟩ := sd_q2_go h
          refine sm_W.cal (sm_C_mono D) (y := 44) (as := [.ref 3, .ref 55, .int x2]) (fr' := (22, [some (.ref 3), some (.ref 55), some (.int x2), some (.int x3), some (.int x4)], [], 0, 0)) rfl (T_Reader_readNot (by omega) (by decide) hE (by omega) hc ?_)
          show sm_W sm_sh X (sm_C sm_sh X sm_P D) me_43 Q (22, [some (.ref 3), some (.ref 55), some (.int x2), some (.int x3), some (.int x4)], [.int r2], 0, 0) (I3, J, sm_rf t d)
          refine sm_W.run (sm_C_mono D) 3 (G := True) (fr' := (25, [some (.ref 3), some (.ref 55), some (.int x2), some (.int r2), some (.int x4)], [.int (20001 : Int32), .ref 55], 0, 0)) (M' := (I3, J, sm_rf t d)) rfl trivial ?_
          obtain ⟨I4, hc, h⟩ := sd_q1_go h
          refine sm_W.cal (sm_C_mono D) (y := 52) (as := [.ref 55, .int (20001 : Int32)]) (fr' := (26, [some (.ref 3), some (.ref 55), some (.int x2), some (.int r2), some (.int x4)], [], 0, 0)) rfl (T_Rules_add (by omega) (by decide) hc ?_)
          show sm_W sm_sh X (sm_C sm_sh X sm_P D) me_43 Q (26, [some (.ref 3), some (.ref 55), some (.int x2), some (.int r2), some (.int x4)], [], 0, 0) (I4, J, sm_rf t d)
          refine sm_W.run (sm_C_mono D) 2 (G := True) (fr' := (7, [some (.ref 3), some (.ref 55), some (.int x2), some (.int r2), some (.int (x4 + (1 : Int32)))], [], 0, 0)) (M' := (I4, J, sm_rf t d)) rfl trivial ?_
          exact (hk7 _ _ _ _ h)
theorem G_Reader_readAnd_7 {X : Nat × (Nat → Int32)} {t d D DE : Nat} {Q : sm_Q} {J : sm_MJ} {p1 : Nat} {kE : Nat → Int32 → sm_MI → Option (Int32 × sm_MI)} {rz : Int32} {Iz : sm_MI}
    (hD : 8 ≤ D) (hp : (p1 = 35) ∨ (p1 = 55)) (hE : ∀ (r : Nat) (x : Int32) (I : sm_MI) (v : Int32) (I9 : sm_MI) (Q : sm_Q), (r = 35 ∨ r = 55) → kE r x I = some (v, I9) → Q (.inl (some (.int v))) (I9, J, sm_rf t d) → sm_C sm_sh X sm_P DE 42 [.ref 3, .ref r, .int x] (I, J, sm_rf t d) Q) (hDE : DE + 5 ≤ D) (hQ : Q (.inl (some (.int rz))) (Iz, J, sm_rf t d))  : ∀ (n : Nat) (x2 : Int32) (x3 : Int32) (x4 : Int32) (I : sm_MI), F_Reader_readAnd_7 p1 kE n x2 x3 x4 I = some (rz, Iz) → sm_W sm_sh X (sm_C sm_sh X sm_P D) me_43 Q (7, [some (.ref 3), some (.ref p1), some (.int x2), some (.int x3), some (.int x4)], [], 0, 0) (I, J, sm_rf t d) := by
  intro n
  induction n with
  | zero => intro x2 x3 x4 I h; cases (show (none : Option (Int32 × sm_MI)) = some (rz, Iz) from h)
  | succ n ih => intro x2 x3 x4 I h; exact G_Reader_readAnd_7B hD hp hE hDE (show F_Reader_readAnd_7B p1 kE (F_Reader_readAnd_7 p1 kE n) x2 x3 x4 I = some (rz, Iz) from h) hQ  ih
theorem G_Reader_readAnd {X : Nat × (Nat → Int32)} {t d D DE : Nat} {Q : sm_Q} {I : sm_MI} {J : sm_MJ} {p1 : Nat} {kE : Nat → Int32 → sm_MI → Option (Int32 × sm_MI)} {x2 : Int32} {rz : Int32} {Iz : sm_MI}
    (hD : 8 ≤ D) (hp : (p1 = 35) ∨ (p1 = 55)) (hE : ∀ (r : Nat) (x : Int32) (I : sm_MI) (v : Int32) (I9 : sm_MI) (Q : sm_Q), (r = 35 ∨ r = 55) → kE r x I = some (v, I9) → Q (.inl (some (.int v))) (I9, J, sm_rf t d) → sm_C sm_sh X sm_P DE 42 [.ref 3, .ref r, .int x] (I, J, sm_rf t d) Q) (hDE : DE + 5 ≤ D) (h : F_Reader_readAnd p1 kE x2 I = some (rz, Iz)) (hQ : Q (.inl (some (.int rz))) (Iz, J, sm_rf t d))  : sm_W sm_sh X (sm_C sm_sh X sm_P D) me_43 Q (0, [some (.ref 3), some (.ref p1), some (.int x2), none, none], [], 0, 0) (I, J, sm_rf t d) := by
  unfold F_Reader_readAnd at h
  rcases hp with rfl | rfl
  · skip
    refine sm_W.run (sm_C_mono D) 3 (G := True) (fr' := (3, [some (.ref 3), some (.ref 35), some (.int x2), none, none], [.int x2, .ref 35, .ref 3], 0, 0)) (M' := (I, J, sm_rf t d)) rfl trivial ?_
    obtain ⟨r1, I2, hc, h⟩ := sd_q2_go h
    refine sm_W.cal (sm_C_mono D) (y := 44) (as := [.ref 3, .ref 35, .int x2]) (fr' := (4, [some (.ref 3), some (.ref 35), some (.int x2), none, none], [], 0, 0)) rfl (T_Reader_readNot (by omega) (by decide) hE (by omega) hc ?_)
    show sm_W sm_sh X (sm_C sm_sh X sm_P D) me_43 Q (4, [some (.ref 3), some (.ref 35), some (.int x2), none, none], [.int r1], 0, 0) (I2, J, sm_rf t d)
    refine sm_W.run (sm_C_mono D) 3 (G := True) (fr' := (7, [some (.ref 3), some (.ref 35), some (.int x2), some (.int r1), some (.int (0 : Int32))], [], 0, 0)) (M' := (I2, J, sm_rf t d)) rfl trivial ?_
    exact (G_Reader_readAnd_7 hD (by decide) hE hDE hQ sd_fu _ _ _ _ h)
  · skip
    refine sm_W.run (sm_C_mono D) 3 (G := True) (fr' := (3, [some (.ref 3), some (.ref 55), some (.int x2), none, none], [.int x2, .ref 55, .ref 3], 0, 0)) (M' := (I, J, sm_rf t d)) rfl trivial ?_
    obtain ⟨r1, I2, hc, h⟩ := sd_q2_go h
    refine sm_W.cal (sm_C_mono D) (y := 44) (as := [.ref 3, .ref 55, .int x2]) (fr' := (4, [some (.ref 3), some (.ref 55), some (.int x2), none, none], [], 0, 0)) rfl (T_Reader_readNot (by omega) (by decide) hE (by omega) hc ?_)
    show sm_W sm_sh X (sm_C sm_sh X sm_P D) me_43 Q (4, [some (.ref 3), some (.ref 55), some (.int x2), none, none], [.int r1], 0, 0) (I2, J, sm_rf t d)
    refine sm_W.run (sm_C_mono D) 3 (G := True) (fr' := (7, [some (.ref 3), some (.ref 55), some (.int x2), some (.int r1), some (.int (0 : Int32))], [], 0, 0)) (M' := (I2, J, sm_rf t d)) rfl trivial ?_
    exact (G_Reader_readAnd_7 hD (by decide) hE hDE hQ sd_fu _ _ _ _ h)
theorem T_Reader_readAnd {X : Nat × (Nat → Int32)} {t d D DE : Nat} {Q : sm_Q} {I : sm_MI} {J : sm_MJ} {p1 : Nat} {kE : Nat → Int32 → sm_MI → Option (Int32 × sm_MI)} {x2 : Int32} {rz : Int32} {Iz : sm_MI}
    (hD : 9 ≤ D) (hp : (p1 = 35) ∨ (p1 = 55)) (hE : ∀ (r : Nat) (x : Int32) (I : sm_MI) (v : Int32) (I9 : sm_MI) (Q : sm_Q), (r = 35 ∨ r = 55) → kE r x I = some (v, I9) → Q (.inl (some (.int v))) (I9, J, sm_rf t d) → sm_C sm_sh X sm_P DE 42 [.ref 3, .ref r, .int x] (I, J, sm_rf t d) Q) (hDE : DE + 6 ≤ D) (h : F_Reader_readAnd p1 kE x2 I = some (rz, Iz)) (hQ : Q (.inl (some (.int rz))) (Iz, J, sm_rf t d)) : sm_C sm_sh X sm_P D 43 [.ref 3, .ref p1, .int x2] (I, J, sm_rf t d) Q := by
  cases D with
  | zero => omega
  | succ D => exact sm_C.of (me := me_43) (L := [some (.ref 3), some (.ref p1), some (.int x2), none, none]) rfl rfl rfl (sm_W.forget (L' := [some (.ref 3), some (.ref p1), some (.int x2), none, none]) ⟨rfl, ⟨rfl, ⟨rfl, trivial⟩⟩⟩ (G_Reader_readAnd (by omega) hp hE (by omega) h hQ))
