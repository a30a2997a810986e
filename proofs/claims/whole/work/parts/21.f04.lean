/-! ===== printed by wip/gen/emit_parts.py: what the methods compute ===== -/
-- 37 Reader_readSinger
noncomputable def F_Reader_readSinger_8 (p1 : Nat) (I : sm_MI) : Option (Int32 × sm_MI) :=
  sd_q2 (F_Reader_fail (2 : Int32) I) fun r1 I2 =>
  some ((vp_nar .boolean r1), I2)
noncomputable def F_Reader_readSinger (p1 : Nat) (I : sm_MI) : Option (Int32 × sm_MI) :=
  sd_lt (I p1 0) fun a1 =>
  if a1 < 0 then
    F_Reader_readSinger_8 p1 I
  else
    if a1 < (14 : Int32) then
      sd_gu (sm_in a1 14 = true) <|
      sd_lt (sd_up I (p1 + 1) (Int32.toNatClampNeg a1) ((I 3 2) - (0 : Int32))) fun I3 =>
      sd_q1 (F_Reader_step I3) fun I4 =>
      sd_q1 (F_Reader_atPart I4) fun r5 =>
      if ¬ r5 = 0 then
        sd_gu (sm_in a1 14 = true) <|
        sd_lt (sd_up I4 (p1 + 2) (Int32.toNatClampNeg a1) ((I4 3 2) - (3 : Int32))) fun I7 =>
        sd_q1 (F_Reader_step I7) fun I8 =>
        sd_q2 (F_Reader_readNumber (0 : Int32) (48 : Int32) I8) fun r9 I10 =>
        if ¬ r9 = 0 then
          sd_gu (sm_in a1 14 = true) <|
          sd_lt (sd_up I10 (p1 + 3) (Int32.toNatClampNeg a1) (I10 3 3)) fun I12 =>
          sd_q2 (F_Reader_readNumber (I12 3 3) (48 : Int32) I12) fun r13 I14 =>
          if ¬ r13 = 0 then
            sd_gu (sm_in a1 14 = true) <|
            sd_lt (sd_up I14 (p1 + 4) (Int32.toNatClampNeg a1) (I14 3 3)) fun I16 =>
            sd_q2 (F_Reader_readNumber (0 : Int32) (9 : Int32) I16) fun r17 I18 =>
            if ¬ r17 = 0 then
              sd_gu (sm_in a1 14 = true) <|
              sd_lt (sd_up I18 (p1 + 5) (Int32.toNatClampNeg a1) (I18 3 3)) fun I20 =>
              sd_lt (sd_up I20 p1 0 (a1 + (1 : Int32))) fun I21 =>
              some ((1 : Int32), I21)
            else
              some ((0 : Int32), I18)
          else
            some ((0 : Int32), I14)
        else
          some ((0 : Int32), I10)
      else
        sd_q2 (F_Reader_fail (1 : Int32) I4) fun r22 I23 =>
        some ((vp_nar .boolean r22), I23)
    else
      F_Reader_readSinger_8 p1 I
theorem G_Reader_readSinger_8 {X : Nat × (Nat → Int32)} {t d D : Nat} {Q : sm_Q} {I : sm_MI} {J : sm_MJ} {p1 : Nat} {rz : Int32} {Iz : sm_MI}
    (hD : 3 ≤ D) (hp : (p1 = 21) ∨ (p1 = 41)) (h : F_Reader_readSinger_8 p1 I = some (rz, Iz)) (hQ : Q (.inl (some (.int rz))) (Iz, J, sm_rf t d))  : sm_W sm_sh X (sm_C sm_sh X sm_P D) me_37 Q (8, [some (.ref 3), none, none], [], 0, 0) (I, J, sm_rf t d) := by
  unfold F_Reader_readSinger_8 at h
  rcases hp with rfl | rfl
  · skip
    refine sm_W.run (sm_C_mono D) 2 (G := True) (fr' := (10, [some (.ref 3), none, none], [.int (2 : Int32), .ref 3], 0, 0)) (M' := (I, J, sm_rf t d)) rfl trivial ?_
    obtain ⟨r1, I2, hc, h⟩ := sd_q2_go h
    refine sm_W.cal (sm_C_mono D) (y := 28) (as := [.ref 3, .int (2 : Int32)]) (fr' := (11, [some (.ref 3), none, none], [], 0, 0)) rfl (T_Reader_fail (by omega) hc ?_)
    show sm_W sm_sh X (sm_C sm_sh X sm_P D) me_37 Q (11, [some (.ref 3), none, none], [.int r1], 0, 0) (I2, J, sm_rf t d)
    cases h
    exact sm_W.ret (sm_C_mono D) rfl hQ
  · skip
    refine sm_W.run (sm_C_mono D) 2 (G := True) (fr' := (10, [some (.ref 3), none, none], [.int (2 : Int32), .ref 3], 0, 0)) (M' := (I, J, sm_rf t d)) rfl trivial ?_
    obtain ⟨r1, I2, hc, h⟩ := sd_q2_go h
    refine sm_W.cal (sm_C_mono D) (y := 28) (as := [.ref 3, .int (2 : Int32)]) (fr' := (11, [some (.ref 3), none, none], [], 0, 0)) rfl (T_Reader_fail (by omega) hc ?_)
    show sm_W sm_sh X (sm_C sm_sh X sm_P D) me_37 Q (11, [some (.ref 3), none, none], [.int r1], 0, 0) (I2, J, sm_rf t d)
    cases h
    exact sm_W.ret (sm_C_mono D) rfl hQ
theorem G_Reader_readSinger {X : Nat × (Nat → Int32)} {t d D : Nat} {Q : sm_Q} {I : sm_MI} {J : sm_MJ} {p1 : Nat} {rz : Int32} {Iz : sm_MI}
    (hD : 3 ≤ D) (hp : (p1 = 21) ∨ (p1 = 41)) (h : F_Reader_readSinger p1 I = some (rz, Iz)) (hQ : Q (.inl (some (.int rz))) (Iz, J, sm_rf t d))  : sm_W sm_sh X (sm_C sm_sh X sm_P D) me_37 Q (0, [some (.ref 3), some (.ref p1), none], [], 0, 0) (I, J, sm_rf t d) := by
  unfold F_Reader_readSinger at h
  rcases hp with rfl | rfl
  · skip
    refine sm_W.runL (sm_C_mono D) 3 (G := True) (e := (I 21 0)) (fr' := fun a1 => (3, [some (.ref 3), some (.ref 21), some (.int a1)], [], 0, 0)) (M' := fun _ => (I, J, sm_rf t d)) rfl h trivial (fun a1 h => ?_)
    refine sm_W.run (sm_C_mono D) 2 (G := True) (fr' := (if decide (a1 < 0) = true then 8 else 5, [some (.ref 3), some (.ref 21), some (.int a1)], [], 0, 0)) (M' := (I, J, sm_rf t d)) rfl trivial (sm_W.iteD h (fun hc h => ?_) (fun hc h => ?_))
    · exact sm_W.forget (L' := [some (.ref 3), none, none]) ⟨rfl, trivial⟩ (G_Reader_readSinger_8 hD (by decide) h hQ)
    · refine sm_W.run (sm_C_mono D) 3 (G := True) (fr' := (if decide (a1 < (14 : Int32)) = true then 12 else 8, [some (.ref 3), some (.ref 21), some (.int a1)], [], 0, 0)) (M' := (I, J, sm_rf t d)) rfl trivial (sm_W.iteD h (fun hc h => ?_) (fun hc h => ?_))
      · obtain ⟨g2, h⟩ := sd_gu_go h
        refine sm_W.runL (sm_C_mono D) 8 (G := sm_in a1 14 = true ∧ True) (e := (sd_up I (21 + 1) (Int32.toNatClampNeg a1) ((I 3 2) - (0 : Int32)))) (fr' := fun _ => (20, [some (.ref 3), some (.ref 21), some (.int a1)], [], 0, 0)) (M' := fun I3 => (I3, J, sm_rf t d)) rfl h ⟨g2, trivial⟩ (fun I3 h => ?_)
        refine sm_W.run (sm_C_mono D) 1 (G := True) (fr' := (21, [some (.ref 3), some (.ref 21), some (.int a1)], [.ref 3], 0, 0)) (M' := (I3, J, sm_rf t d)) rfl trivial ?_
        obtain ⟨I4, hc, h⟩ := sd_q1_go h
        refine sm_W.cal (sm_C_mono D) (y := 29) (as := [.ref 3]) (fr' := (22, [some (.ref 3), some (.ref 21), some (.int a1)], [], 0, 0)) rfl (T_Reader_step (by omega) hc ?_)
        show sm_W sm_sh X (sm_C sm_sh X sm_P D) me_37 Q (22, [some (.ref 3), some (.ref 21), some (.int a1)], [], 0, 0) (I4, J, sm_rf t d)
        refine sm_W.run (sm_C_mono D) 1 (G := True) (fr' := (23, [some (.ref 3), some (.ref 21), some (.int a1)], [.ref 3], 0, 0)) (M' := (I4, J, sm_rf t d)) rfl trivial ?_
        obtain ⟨r5, hc, h⟩ := sd_q1_go h
        refine sm_W.cal (sm_C_mono D) (y := 33) (as := [.ref 3]) (fr' := (24, [some (.ref 3), some (.ref 21), some (.int a1)], [], 0, 0)) rfl (T_Reader_atPart (by omega) hc ?_)
        show sm_W sm_sh X (sm_C sm_sh X sm_P D) me_37 Q (24, [some (.ref 3), some (.ref 21), some (.int a1)], [.int r5], 0, 0) (I4, J, sm_rf t d)
        refine sm_W.run (sm_C_mono D) 1 (G := True) (fr' := (if decide (¬ r5 = 0) = true then 29 else 25, [some (.ref 3), some (.ref 21), some (.int a1)], [], 0, 0)) (M' := (I4, J, sm_rf t d)) rfl trivial (sm_W.iteD h (fun hc h => ?_) (fun hc h => ?_))
        · obtain ⟨g6, h⟩ := sd_gu_go h
          refine sm_W.runL (sm_C_mono D) 8 (G := sm_in a1 14 = true ∧ True) (e := (sd_up I4 (21 + 2) (Int32.toNatClampNeg a1) ((I4 3 2) - (3 : Int32)))) (fr' := fun _ => (37, [some (.ref 3), some (.ref 21), some (.int a1)], [], 0, 0)) (M' := fun I7 => (I7, J, sm_rf t d)) rfl h ⟨g6, trivial⟩ (fun I7 h => ?_)
          refine sm_W.run (sm_C_mono D) 1 (G := True) (fr' := (38, [some (.ref 3), some (.ref 21), some (.int a1)], [.ref 3], 0, 0)) (M' := (I7, J, sm_rf t d)) rfl trivial ?_
          obtain ⟨I8, hc, h⟩ := sd_q1_go h
          refine sm_W.cal (sm_C_mono D) (y := 29) (as := [.ref 3]) (fr' := (39, [some (.ref 3), some (.ref 21), some (.int a1)], [], 0, 0)) rfl (T_Reader_step (by omega) hc ?_)
          show sm_W sm_sh X (sm_C sm_sh X sm_P D) me_37 Q (39, [some (.ref 3), some (.ref 21), some (.int a1)], [], 0, 0) (I8, J, sm_rf t d)
          refine sm_W.run (sm_C_mono D) 3 (G := True) (fr' := (42, [some (.ref 3), some (.ref 21), some (.int a1)], [.int (48 : Int32), .int (0 : Int32), .ref 3], 0, 0)) (M' := (I8, J, sm_rf t d)) rfl trivial ?_
          obtain ⟨r9, I10, hc, h⟩ := sd_q2_go h
          refine sm_W.cal (sm_C_mono D) (y := 36) (as := [.ref 3, .int (0 : Int32), .int (48 : Int32)]) (fr' := (43, [some (.ref 3), some (.ref 21), some (.int a1)], [], 0, 0)) rfl (T_Reader_readNumber (by omega) hc ?_)
          show sm_W sm_sh X (sm_C sm_sh X sm_P D) me_37 Q (43, [some (.ref 3), some (.ref 21), some (.int a1)], [.int r9], 0, 0) (I10, J, sm_rf t d)
          refine sm_W.run (sm_C_mono D) 1 (G := True) (fr' := (if decide (¬ r9 = 0) = true then 46 else 44, [some (.ref 3), some (.ref 21), some (.int a1)], [], 0, 0)) (M' := (I10, J, sm_rf t d)) rfl trivial (sm_W.iteD h (fun hc h => ?_) (fun hc h => ?_))
          · obtain ⟨g11, h⟩ := sd_gu_go h
            refine sm_W.runL (sm_C_mono D) 6 (G := sm_in a1 14 = true ∧ True) (e := (sd_up I10 (21 + 3) (Int32.toNatClampNeg a1) (I10 3 3))) (fr' := fun _ => (52, [some (.ref 3), some (.ref 21), some (.int a1)], [], 0, 0)) (M' := fun I12 => (I12, J, sm_rf t d)) rfl h ⟨g11, trivial⟩ (fun I12 h => ?_)
            refine sm_W.run (sm_C_mono D) 4 (G := True) (fr' := (56, [some (.ref 3), some (.ref 21), some (.int a1)], [.int (48 : Int32), .int (I12 3 3), .ref 3], 0, 0)) (M' := (I12, J, sm_rf t d)) rfl trivial ?_
            obtain ⟨r13, I14, hc, h⟩ := sd_q2_go h
            refine sm_W.cal (sm_C_mono D) (y := 36) (as := [.ref 3, .int (I12 3 3), .int (48 : Int32)]) (fr' := (57, [some (.ref 3), some (.ref 21), some (.int a1)], [], 0, 0)) rfl (T_Reader_readNumber (by omega) hc ?_)
            show sm_W sm_sh X (sm_C sm_sh X sm_P D) me_37 Q (57, [some (.ref 3), some (.ref 21), some (.int a1)], [.int r13], 0, 0) (I14, J, sm_rf t d)
            refine sm_W.run (sm_C_mono D) 1 (G := True) (fr' := (if decide (¬ r13 = 0) = true then 60 else 58, [some (.ref 3), some (.ref 21), some (.int a1)], [], 0, 0)) (M' := (I14, J, sm_rf t d)) rfl trivial (sm_W.iteD h (fun hc h => ?_) (fun hc h => ?_))
            · obtain ⟨g15, h⟩ := sd_gu_go h
              refine sm_W.runL (sm_C_mono D) 6 (G := sm_in a1 14 = true ∧ True) (e := (sd_up I14 (21 + 4) (Int32.toNatClampNeg a1) (I14 3 3))) (fr' := fun _ => (66, [some (.ref 3), some (.ref 21), some (.int a1)], [], 0, 0)) (M' := fun I16 => (I16, J, sm_rf t d)) rfl h ⟨g15, trivial⟩ (fun I16 h => ?_)
              refine sm_W.run (sm_C_mono D) 3 (G := True) (fr' := (69, [some (.ref 3), some (.ref 21), some (.int a1)], [.int (9 : Int32), .int (0 : Int32), .ref 3], 0, 0)) (M' := (I16, J, sm_rf t d)) rfl trivial ?_
              obtain ⟨r17, I18, hc, h⟩ := sd_q2_go h
              refine sm_W.cal (sm_C_mono D) (y := 36) (as := [.ref 3, .int (0 : Int32), .int (9 : Int32)]) (fr' := (70, [some (.ref 3), some (.ref 21), some (.int a1)], [], 0, 0)) rfl (T_Reader_readNumber (by omega) hc ?_)
              show sm_W sm_sh X (sm_C sm_sh X sm_P D) me_37 Q (70, [some (.ref 3), some (.ref 21), some (.int a1)], [.int r17], 0, 0) (I18, J, sm_rf t d)
              refine sm_W.run (sm_C_mono D) 1 (G := True) (fr' := (if decide (¬ r17 = 0) = true then 73 else 71, [some (.ref 3), some (.ref 21), some (.int a1)], [], 0, 0)) (M' := (I18, J, sm_rf t d)) rfl trivial (sm_W.iteD h (fun hc h => ?_) (fun hc h => ?_))
              · obtain ⟨g19, h⟩ := sd_gu_go h
                refine sm_W.runL (sm_C_mono D) 6 (G := sm_in a1 14 = true ∧ True) (e := (sd_up I18 (21 + 5) (Int32.toNatClampNeg a1) (I18 3 3))) (fr' := fun _ => (79, [some (.ref 3), some (.ref 21), some (.int a1)], [], 0, 0)) (M' := fun I20 => (I20, J, sm_rf t d)) rfl h ⟨g19, trivial⟩ (fun I20 h => ?_)
                refine sm_W.runL (sm_C_mono D) 5 (G := True) (e := (sd_up I20 21 0 (a1 + (1 : Int32)))) (fr' := fun _ => (84, [some (.ref 3), some (.ref 21), some (.int a1)], [], 0, 0)) (M' := fun I21 => (I21, J, sm_rf t d)) rfl h trivial (fun I21 h => ?_)
                refine sm_W.run (sm_C_mono D) 1 (G := True) (fr' := (85, [some (.ref 3), some (.ref 21), some (.int a1)], [.int (1 : Int32)], 0, 0)) (M' := (I21, J, sm_rf t d)) rfl trivial ?_
                cases h
                exact sm_W.ret (sm_C_mono D) rfl hQ
              · refine sm_W.run (sm_C_mono D) 1 (G := True) (fr' := (72, [some (.ref 3), some (.ref 21), some (.int a1)], [.int (0 : Int32)], 0, 0)) (M' := (I18, J, sm_rf t d)) rfl trivial ?_
                cases h
                exact sm_W.ret (sm_C_mono D) rfl hQ
            · refine sm_W.run (sm_C_mono D) 1 (G := True) (fr' := (59, [some (.ref 3), some (.ref 21), some (.int a1)], [.int (0 : Int32)], 0, 0)) (M' := (I14, J, sm_rf t d)) rfl trivial ?_
              cases h
              exact sm_W.ret (sm_C_mono D) rfl hQ
          · refine sm_W.run (sm_C_mono D) 1 (G := True) (fr' := (45, [some (.ref 3), some (.ref 21), some (.int a1)], [.int (0 : Int32)], 0, 0)) (M' := (I10, J, sm_rf t d)) rfl trivial ?_
            cases h
            exact sm_W.ret (sm_C_mono D) rfl hQ
        · refine sm_W.run (sm_C_mono D) 2 (G := True) (fr' := (27, [some (.ref 3), some (.ref 21), some (.int a1)], [.int (1 : Int32), .ref 3], 0, 0)) (M' := (I4, J, sm_rf t d)) rfl trivial ?_
          obtain ⟨r22, I23, hc, h⟩ := sd_q2_go h
          refine sm_W.cal (sm_C_mono D) (y := 28) (as := [.ref 3, .int (1 : Int32)]) (fr' := (28, [some (.ref 3), some (.ref 21), some (.int a1)], [], 0, 0)) rfl (T_Reader_fail (by omega) hc ?_)
          show sm_W sm_sh X (sm_C sm_sh X sm_P D) me_37 Q (28, [some (.ref 3), some (.ref 21), some (.int a1)], [.int r22], 0, 0) (I23, J, sm_rf t d)
          cases h
          exact sm_W.ret (sm_C_mono D) rfl hQ
      · exact sm_W.forget (L' := [some (.ref 3), none, none]) ⟨rfl, trivial⟩ (G_Reader_readSinger_8 hD (by decide) h hQ)
  · skip
    refine sm_W.runL (sm_C_mono D) 3 (G := True) (e := (I 41 0)) (fr' := fun a1 => (3, [some (.ref 3), some (.ref 41), some (.int a1)], [], 0, 0)) (M' := fun _ => (I, J, sm_rf t d)) rfl h trivial (fun a1 h => ?_)
    refine sm_W.run (sm_C_mono D) 2 (G := True) (fr' := (if decide (a1 < 0) = true then 8 else 5, [some (.ref 3), some (.ref 41), some (.int a1)], [], 0, 0)) (M' := (I, J, sm_rf t d)) rfl trivial (sm_W.iteD h (fun hc h => ?_) (fun hc h => ?_))
    · exact sm_W.forget (L' := [some (.ref 3), none, none]) ⟨rfl, trivial⟩ (G_Reader_readSinger_8 hD (by decide) h hQ)
    · refine sm_W.run (sm_C_mono D) 3 (G := True) (fr' := (if decide (a1 < (14 : Int32)) = true then 12 else 8, [some (.ref 3), some (.ref 41), some (.int a1)], [], 0, 0)) (M' := (I, J, sm_rf t d)) rfl trivial (sm_W.iteD h (fun hc h => ?_) (fun hc h => ?_))
      · obtain ⟨g2, h⟩ := sd_gu_go h
        refine sm_W.runL (sm_C_mono D) 8 (G := sm_in a1 14 = true ∧ True) (e := (sd_up I (41 + 1) (Int32.toNatClampNeg a1) ((I 3 2) - (0 : Int32)))) (fr' := fun _ => (20, [some (.ref 3), some (.ref 41), some (.int a1)], [], 0, 0)) (M' := fun I3 => (I3, J, sm_rf t d)) rfl h ⟨g2, trivial⟩ (fun I3 h => ?_)
        refine sm_W.run (sm_C_mono D) 1 (G := True) (fr' := (21, [some (.ref 3), some (.ref 41), some (.int a1)], [.ref 3], 0, 0)) (M' := (I3, J, sm_rf t d)) rfl trivial ?_
        obtain ⟨I4, hc, h⟩ := sd_q1_go h
        refine sm_W.cal (sm_C_mono D) (y := 29) (as := [.ref 3]) (fr' := (22, [some (.ref 3), some (.ref 41), some (.int a1)], [], 0, 0)) rfl (T_Reader_step (by omega) hc ?_)
        show sm_W sm_sh X (sm_C sm_sh X sm_P D) me_37 Q (22, [some (.ref 3), some (.ref 41), some (.int a1)], [], 0, 0) (I4, J, sm_rf t d)
        refine sm_W.run (sm_C_mono D) 1 (G := True) (fr' := (23, [some (.ref 3), some (.ref 41), some (.int a1)], [.ref 3], 0, 0)) (M' := (I4, J, sm_rf t d)) rfl trivial ?_
        obtain ⟨r5, hc, h⟩ := sd_q1_go h
        refine sm_W.cal (sm_C_mono D) (y := 33) (as := [.ref 3]) (fr' := (24, [some (.ref 3), some (.ref 41), some (.int a1)], [], 0, 0)) rfl (T_Reader_atPart (by omega) hc ?_)
        show sm_W sm_sh X (sm_C sm_sh X sm_P D) me_37 Q (24, [some (.ref 3), some (.ref 41), some (.int a1)], [.int r5], 0, 0) (I4, J, sm_rf t d)
        refine sm_W.run (sm_C_mono D) 1 (G := True) (fr' := (if decide (¬ r5 = 0) = true then 29 else 25, [some (.ref 3), some (.ref 41), some (.int a1)], [], 0, 0)) (M' := (I4, J, sm_rf t d)) rfl trivial (sm_W.iteD h (fun hc h => ?_) (fun hc h => ?_))
        · obtain ⟨g6, h⟩ := sd_gu_go h
          refine sm_W.runL (sm_C_mono D) 8 (G := sm_in a1 14 = true ∧ True) (e := (sd_up I4 (41 + 2) (Int32.toNatClampNeg a1) ((I4 3 2) - (3 : Int32)))) (fr' := fun _ => (37, [some (.ref 3), some (.ref 41), some (.int a1)], [], 0, 0)) (M' := fun I7 => (I7, J, sm_rf t d)) rfl h ⟨g6, trivial⟩ (fun I7 h => ?_)
          refine sm_W.run (sm_C_mono D) 1 (G := True) (fr' := (38, [some (.ref 3), some (.ref 41), some (.int a1)], [.ref 3], 0, 0)) (M' := (I7, J, sm_rf t d)) rfl trivial ?_
          obtain ⟨I8, hc, h⟩ := sd_q1_go h
          refine sm_W.cal (sm_C_mono D) (y := 29) (as := [.ref 3]) (fr' := (39, [some (.ref 3), some (.ref 41), some (.int a1)], [], 0, 0)) rfl (T_Reader_step (by omega) hc ?_)
          show sm_W sm_sh X (sm_C sm_sh X sm_P D) me_37 Q (39, [some (.ref 3), some (.ref 41), some (.int a1)], [], 0, 0) (I8, J, sm_rf t d)
          refine sm_W.run (sm_C_mono D) 3 (G := True) (fr' := (42, [some (.ref 3), some (.ref 41), some (.int a1)], [.int (48 : Int32), .int (0 : Int32), .ref 3], 0, 0)) (M' := (I8, J, sm_rf t d)) rfl trivial ?_
          obtain ⟨r9, I10, hc, h⟩ := sd_q2_go h
          refine sm_W.cal (sm_C_mono D) (y := 36) (as := [.ref 3, .int (0 : Int32), .int (48 : Int32)]) (fr' := (43, [some (.ref 3), some (.ref 41), some (.int a1)], [], 0, 0)) rfl (T_Reader_readNumber (by omega) hc ?_)
          show sm_W sm_sh X (sm_C sm_sh X sm_P D) me_37 Q (43, [some (.ref 3), some (.ref 41), some (.int a1)], [.int r9], 0, 0) (I10, J, sm_rf t d)
          refine sm_W.run (sm_C_mono D) 1 (G := True) (fr' := (if decide (¬ r9 = 0) = true then 46 else 44, [some (.ref 3), some (.ref 41), some (.int a1)], [], 0, 0)) (M' := (I10, J, sm_rf t d)) rfl trivial (sm_W.iteD h (fun hc h => ?_) (fun hc h => ?_))
          · obtain ⟨g11, h⟩ := sd_gu_go h
            refine sm_W.runL (sm_C_mono D) 6 (G := sm_in a1 14 = true ∧ True) (e := (sd_up I10 (41 + 3) (Int32.toNatClampNeg a1) (I10 3 3))) (fr' := fun _ => (52, [some (.ref 3), some (.ref 41), some (.int a1)], [], 0, 0)) (M' := fun I12 => (I12, J, sm_rf t d)) rfl h ⟨g11, trivial⟩ (fun I12 h => ?_)
            refine sm_W.run (sm_C_mono D) 4 (G := True) (fr' := (56, [some (.ref 3), some (.ref 41), some (.int a1)], [.int (48 : Int32), .int (I12 3 3), .ref 3], 0, 0)) (M' := (I12, J, sm_rf t d)) rfl trivial ?_
            obtain ⟨r13, I14, hc, h⟩ := sd_q2_go h
            refine sm_W.cal (sm_C_mono D) (y := 36) (as := [.ref 3, .int (I12 3 3), .int (48 : Int32)]) (fr' := (57, [some (.ref 3), some (.ref 41), some (.int a1)], [], 0, 0)) rfl (T_Reader_readNumber (by omega) hc ?_)
            show sm_W sm_sh X (sm_C sm_sh X sm_P D) me_37 Q (57, [some (.ref 3), some (.ref 41), some (.int a1)], [.int r13], 0, 0) (I14, J, sm_rf t d)
            refine sm_W.run (sm_C_mono D) 1 (G := True) (fr' := (if decide (¬ r13 = 0) = true then 60 else 58, [some (.ref 3), some (.ref 41), some (.int a1)], [], 0, 0)) (M' := (I14, J, sm_rf t d)) rfl trivial (sm_W.iteD h (fun hc h => ?_) (fun hc h => ?_))
            · obtain ⟨g15, h⟩ := sd_gu_go h
              refine sm_W.runL (sm_C_mono D) 6 (G := sm_in a1 14 = true ∧ True) (e := (sd_up I14 (41 + 4) (Int32.toNatClampNeg a1) (I14 3 3))) (fr' := fun _ => (66, [some (.ref 3), some (.ref 41), some (.int a1)], [], 0, 0)) (M' := fun I16 => (I16, J, sm_rf t d)) rfl h ⟨g15, trivial⟩ (fun I16 h => ?_)
              refine sm_W.run (sm_C_mono D) 3 (G := True) (fr' := (69, [some (.ref 3), some (.ref 41), some (.int a1)], [.int (9 : Int32), .int (0 : Int32), .ref 3], 0, 0)) (M' := (I16, J, sm_rf t d)) rfl trivial ?_
              obtain ⟨r17, I18, hc, h⟩ := sd_q2_go h
              refine sm_W.cal (sm_C_mono D) (y := 36) (as := [.ref 3, .int (0 : Int32), .int (9 : Int32)]) (fr' := (70, [some (.ref 3), some (.ref 41), some (.int a1)], [], 0, 0)) rfl (T_Reader_readNumber (by omega) hc ?_)
              show sm_W sm_sh X (sm_C sm_sh X sm_P D) me_37 Q (70, [some (.ref 3), some (.ref 41), some (.int a1)], [.int r17], 0, 0) (I18, J, sm_rf t d)
              refine sm_W.run (sm_C_mono D) 1 (G := True) (fr' := (if decide (¬ r17 = 0) = true then 73 else 71, [some (.ref 3), some (.ref 41), some (.int a1)], [], 0, 0)) (M' := (I18, J, sm_rf t d)) rfl trivial (sm_W.iteD h (fun hc h => ?_) (fun hc h => ?_))
              · obtain ⟨g19, h⟩ := sd_gu_go h
                refine sm_W.runL (sm_C_mono D) 6 (G := sm_in a1 14 = true ∧ True) (e := (sd_up I18 (41 + 5) (Int32.toNatClampNeg a1) (I18 3 3))) (fr' := fun _ => (79, [some (.ref 3), some (.ref 41), some (.int a1)], [], 0, 0)) (M' := fun I20 => (I20, J, sm_rf t d)) rfl h ⟨g19, trivial⟩ (fun I20 h => ?_)
                refine sm_W.runL (sm_C_mono D) 5 (G := True) (e := (sd_up I20 41 0 (a1 + (1 : Int32)))) (fr' := fun _ => (84, [some (.ref 3), some (.ref 41), some (.int a1)], [], 0, 0)) (M' := fun I21 => (I21, J, sm_rf t d)) rfl h trivial (fun I21 h => ?_)
                refine sm_W.run (sm_C_mono D) 1 (G := True) (fr' := (85, [some (.ref 3), some (.ref 41), some (.int a1)], [.int (1 : Int32)], 0, 0)) (M' := (I21, J, sm_rf t d)) rfl trivial ?_
                cases h
                exact sm_W.ret (sm_C_mono D) rfl hQ
              · refine sm_W.run (sm_C_mono D) 1 (G := True) (fr' := (72, [some (.ref 3), some (.ref 41), some (.int a1)], [.int (0 : Int32)], 0, 0)) (M' := (I18, J, sm_rf t d)) rfl trivial ?_
                cases h
                exact sm_W.ret (sm_C_mono D) rfl hQ
            · refine sm_W.run (sm_C_mono D) 1 (G := True) (fr' := (59, [some (.ref 3), some (.ref 41), some (.int a1)], [.int (0 : Int32)], 0, 0)) (M' := (I14, J, sm_rf t d)) rfl trivial ?_
              cases h
              exact sm_W.ret (sm_C_mono D) rfl hQ
          · refine sm_W.run (sm_C_mono D) 1 (G := True) (fr' := (45, [some (.ref 3), some (.ref 41), some (.int a1)], [.int (0 : Int32)], 0, 0)) (M' := (I10, J, sm_rf t d)) rfl trivial ?_
            cases h
            exact sm_W.ret (sm_C_mono D) rfl hQ
        · refine sm_W.run (sm_C_mono D) 2 (G := True) (fr' := (27, [some (.ref 3), some (.ref 41), some (.int a1)], [.int (1 : Int32), .ref 3], 0, 0)) (M' := (I4, J, sm_rf t d)) rfl trivial ?_
          obtain ⟨r22, I23, hc, h⟩ := sd_q2_go h
          refine sm_W.cal (sm_C_mono D) (y := 28) (as := [.ref 3, .int (1 : Int32)]) (fr' := (28, [some (.ref 3), some (.ref 41), some (.int a1)], [], 0, 0)) rfl (T_Reader_fail (by omega) hc ?_)
          show sm_W sm_sh X (sm_C sm_sh X sm_P D) me_37 Q (28, [some (.ref 3), some (.ref 41), some (.int a1)], [.int r22], 0, 0) (I23, J, sm_rf t d)
          cases h
          exact sm_W.ret (sm_C_mono D) rfl hQ
      · exact sm_W.forget (L' := [some (.ref 3), none, none]) ⟨rfl, trivial⟩ (G_Reader_readSinger_8 hD (by decide) h hQ)
theorem T_Reader_readSinger {X : Nat × (Nat → Int32)} {t d D : Nat} {Q : sm_Q} {I : sm_MI} {J : sm_MJ} {p1 : Nat} {rz : Int32} {Iz : sm_MI}
    (hD : 4 ≤ D) (hp : (p1 = 21) ∨ (p1 = 41)) (h : F_Reader_readSinger p1 I = some (rz, Iz)) (hQ : Q (.inl (some (.int rz))) (Iz, J, sm_rf t d)) : sm_C sm_sh X sm_P D 37 [.ref 3, .ref p1] (I, J, sm_rf t d) Q := by
  cases D with
  | zero => omega
  | succ D => exact sm_C.of (me := me_37) (L := [some (.ref 3), some (.ref p1), none]) rfl rfl rfl (sm_W.forget (L' := [some (.ref 3), some (.ref p1), none]) ⟨rfl, ⟨rfl, trivial⟩⟩ (G_Reader_readSinger (by omega) hp h hQ))
-- 38 Reader_readPiece
noncomputable def F_Reader_readPiece (p1 : Nat) (I : sm_MI) : Option (Int32 × sm_MI) :=
  if (I p1 1) < (5 : Int32) then
    sd_lt (sd_up I p1 1 ((I p1 1) + (1 : Int32))) fun I1 =>
    sd_q1 (F_Reader_step I1) fun I2 =>
    some ((1 : Int32), I2)
  else
    sd_q2 (F_Reader_fail (2 : Int32) I) fun r3 I4 =>
    some ((vp_nar .boolean r3), I4)
theorem G_Reader_readPiece {X : Nat × (Nat → Int32)} {t d D : Nat} {Q : sm_Q} {I : sm_MI} {J : sm_MJ} {p1 : Nat} {rz : Int32} {Iz : sm_MI}
    (hD : 2 ≤ D) (hp : (p1 = 21) ∨ (p1 = 41)) (h : F_Reader_readPiece p1 I = some (rz, Iz)) (hQ : Q (.inl (some (.int rz))) (Iz, J, sm_rf t d))  : sm_W sm_sh X (sm_C sm_sh X sm_P D) me_38 Q (0, [some (.ref 3), some (.ref p1)], [], 0, 0) (I, J, sm_rf t d) := by
  unfold F_Reader_readPiece at h
  rcases hp with rfl | rfl
  · skip
    refine sm_W.run (sm_C_mono D) 4 (G := True) (fr' := (if decide ((I 21 1) < (5 : Int32)) = true then 8 else 4, [some (.ref 3), some (.ref 21)], [], 0, 0)) (M' := (I, J, sm_rf t d)) rfl trivial (sm_W.iteD h (fun hc h => ?_) (fun hc h => ?_))
    · refine sm_W.runL (sm_C_mono D) 6 (G := True) (e := (sd_up I 21 1 ((I 21 1) + (1 : Int32)))) (fr' := fun _ => (14, [some (.ref 3), some (.ref 21)], [], 0, 0)) (M' := fun I1 => (I1, J, sm_rf t d)) rfl h trivial (fun I1 h => ?_)
      refine sm_W.run (sm_C_mono D) 1 (G := True) (fr' := (15, [some (.ref 3), some (.ref 21)], [.ref 3], 0, 0)) (M' := (I1, J, sm_rf t d)) rfl trivial ?_
      obtain ⟨I2, hc, h⟩ := sd_q1_go h
      refine sm_W.cal (sm_C_mono D) (y := 29) (as := [.ref 3]) (fr' := (16, [some (.ref 3), some (.ref 21)], [], 0, 0)) rfl (T_Reader_step (by omega) hc ?_)
      show sm_W sm_sh X (sm_C sm_sh X sm_P D) me_38 Q (16, [some (.ref 3), some (.ref 21)], [], 0, 0) (I2, J, sm_rf t d)
      refine sm_W.run (sm_C_mono D) 1 (G := True) (fr' := (17, [some (.ref 3), some (.ref 21)], [.int (1 : Int32)], 0, 0)) (M' := (I2, J, sm_rf t d)) rfl trivial ?_
      cases h
      exact sm_W.ret (sm_C_mono D) rfl hQ
    · refine sm_W.run (sm_C_mono D) 2 (G := True) (fr' := (6, [some (.ref 3), some (.ref 21)], [.int (2 : Int32), .ref 3], 0, 0)) (M' := (I, J, sm_rf t d)) rfl trivial ?_
      obtain ⟨r3, I4, hc, h⟩ := sd_q2_go h
      refine sm_W.cal (sm_C_mono D) (y := 28) (as := [.ref 3, .int (2 : Int32)]) (fr' := (7, [some (.ref 3), some (.ref 21)], [], 0, 0)) rfl (T_Reader_fail (by omega) hc ?_)
      show sm_W sm_sh X (sm_C sm_sh X sm_P D) me_38 Q (7, [some (.ref 3), some (.ref 21)], [.int r3], 0, 0) (I4, J, sm_rf t d)
      cases h
      exact sm_W.ret (sm_C_mono D) rfl hQ
  · skip
    refine sm_W.run (sm_C_mono D) 4 (G := True) (fr' := (if decide ((I 41 1) < (5 : Int32)) = true then 8 else 4, [some (.ref 3), some (.ref 41)], [], 0, 0)) (M' := (I, J, sm_rf t d)) rfl trivial (sm_W.iteD h (fun hc h => ?_) (fun hc h => ?_))
    · refine sm_W.runL (sm_C_mono D) 6 (G := True) (e := (sd_up I 41 1 ((I 41 1) + (1 : Int32)))) (fr' := fun _ => (14, [some (.ref 3), some (.ref 41)], [], 0, 0)) (M' := fun I1 => (I1, J, sm_rf t d)) rfl h trivial (fun I1 h => ?_)
      refine sm_W.run (sm_C_mono D) 1 (G := True) (fr' := (15, [some (.ref 3), some (.ref 41)], [.ref 3], 0, 0)) (M' := (I1, J, sm_rf t d)) rfl trivial ?_
      obtain ⟨I2, hc, h⟩ := sd_q1_go h
      refine sm_W.cal (sm_C_mono D) (y := 29) (as := [.ref 3]) (fr' := (16, [some (.ref 3), some (.ref 41)], [], 0, 0)) rfl (T_Reader_step (by omega) hc ?_)
      show sm_W sm_sh X (sm_C sm_sh X sm_P D) me_38 Q (16, [some (.ref 3), some (.ref 41)], [], 0, 0) (I2, J, sm_rf t d)
      refine sm_W.run (sm_C_mono D) 1 (G := True) (fr' := (17, [some (.ref 3), some (.ref 41)], [.int (1 : Int32)], 0, 0)) (M' := (I2, J, sm_rf t d)) rfl trivial ?_
      cases h
      exact sm_W.ret (sm_C_mono D) rfl hQ
    · refine sm_W.run (sm_C_mono D) 2 (G := True) (fr' := (6, [some (.ref 3), some (.ref 41)], [.int (2 : Int32), .ref 3], 0, 0)) (M' := (I, J, sm_rf t d)) rfl trivial ?_
      obtain ⟨r3, I4, hc, h⟩ := sd_q2_go h
      refine sm_W.cal (sm_C_mono D) (y := 28) (as := [.ref 3, .int (2 : Int32)]) (fr' := (7, [some (.ref 3), some (.ref 41)], [], 0, 0)) rfl (T_Reader_fail (by omega) hc ?_)
      show sm_W sm_sh X (sm_C sm_sh X sm_P D) me_38 Q (7, [some (.ref 3), some (.ref 41)], [.int r3], 0, 0) (I4, J, sm_rf t d)
      cases h
      exact sm_W.ret (sm_C_mono D) rfl hQ
theorem T_Reader_readPiece {X : Nat × (Nat → Int32)} {t d D : Nat} {Q : sm_Q} {I : sm_MI} {J : sm_MJ} {p1 : Nat} {rz : Int32} {Iz : sm_MI}
    (hD : 3 ≤ D) (hp : (p1 = 21) ∨ (p1 = 41)) (h : F_Reader_readPiece p1 I = some (rz, Iz)) (hQ : Q (.inl (some (.int rz))) (Iz, J, sm_rf t d)) : sm_C sm_sh X sm_P D 38 [.ref 3, .ref p1] (I, J, sm_rf t d) Q := by
  cases D with
  | zero => omega
  | succ D => exact sm_C.of (me := me_38) (L := [some (.ref 3), some (.ref p1)]) rfl rfl rfl (sm_W.forget (L' := [some (.ref 3), some (.ref p1)]) ⟨rfl, ⟨rfl, trivial⟩⟩ (G_Reader_readPiece (by omega) hp h hQ))
-- 39 Reader_readRow
noncomputable def F_Reader_readRow_21 (p1 : Nat) (I : sm_MI) : Option (Int32 × sm_MI) :=
  sd_q2 (F_Reader_fail (1 : Int32) I) fun r1 I2 =>
  some ((vp_nar .boolean r1), I2)
noncomputable def F_Reader_readRow_78 (p1 : Nat) (x2 : Int32) (x3 : Int32) (I : sm_MI) : Option (Int32 × sm_MI) :=
  sd_gu (sm_in x2 20 = true) <|
  sd_lt (sd_up I (p1 + 7) (Int32.toNatClampNeg x2) x3) fun I2 =>
  sd_q1 (F_Reader_atNumber I2) fun r3 =>
  if r3 = 0 then
    some ((1 : Int32), I2)
  else
    sd_q2 (F_Reader_fail (2 : Int32) I2) fun r4 I5 =>
    if r4 = 0 then
      some ((0 : Int32), I5)
    else
      some ((1 : Int32), I5)
noncomputable def F_Reader_readRow_59 (p1 : Nat) (k51 : Int32 → Int32 → sm_MI → Option (Int32 × sm_MI)) (x2 : Int32) (x3 : Int32) (I : sm_MI) : Option (Int32 × sm_MI) :=
  sd_q2 (F_Reader_readNumber (0 : Int32) (48 : Int32) I) fun r1 I2 =>
  if ¬ r1 = 0 then
    sd_gu (sm_in ((x2 * (12 : Int32)) + x3) 240 = true) <|
    sd_lt (sd_up I2 (p1 + 8) (Int32.toNatClampNeg ((x2 * (12 : Int32)) + x3)) (I2 3 3)) fun I4 =>
    k51 x2 (x3 + (1 : Int32)) I4
  else
    some ((0 : Int32), I2)
noncomputable def F_Reader_readRow_51B (p1 : Nat) (k51 : Int32 → Int32 → sm_MI → Option (Int32 × sm_MI)) (x2 : Int32) (x3 : Int32) (I : sm_MI) : Option (Int32 × sm_MI) :=
  if (12 : Int32) ≤ x3 then
    F_Reader_readRow_78 p1 x2 x3 I
  else
    if x3 = 0 then
      F_Reader_readRow_59 p1 k51 x2 x3 I
    else
      sd_q1 (F_Reader_atNumber I) fun r1 =>
      if r1 = 0 then
        F_Reader_readRow_78 p1 x2 x3 I
      else
        F_Reader_readRow_59 p1 k51 x2 x3 I
noncomputable def F_Reader_readRow_51 (p1 : Nat) (n : Nat) : Int32 → Int32 → sm_MI → Option (Int32 × sm_MI) :=
  sd_fix (fun k x2 x3 I => F_Reader_readRow_51B p1 k x2 x3 I) (fun _ _ _ => none) n
noncomputable def F_Reader_readRow (p1 : Nat) (I : sm_MI) : Option (Int32 × sm_MI) :=
  sd_lt (((((I p1 1) - (1 : Int32)) * (4 : Int32)) + (I 3 2)) - (3 : Int32)) fun a1 =>
  if (I p1 1) < (1 : Int32) then
    F_Reader_readRow_21 p1 I
  else
    if a1 < 0 then
      F_Reader_readRow_21 p1 I
    else
      if a1 < (20 : Int32) then
        sd_gu (sm_in a1 20 = true) <|
        if (I (p1 + 6) (Int32.toNatClampNeg a1)) = 0 then
          sd_q1 (F_Reader_step I) fun I3 =>
          sd_q2 (F_Reader_readNumber (1 : Int32) (4 : Int32) I3) fun r4 I5 =>
          if ¬ r4 = 0 then
            sd_gu (sm_in a1 20 = true) <|
            sd_lt (sd_up I5 (p1 + 6) (Int32.toNatClampNeg a1) (I5 3 3)) fun I7 =>
            F_Reader_readRow_51 p1 sd_fu a1 (0 : Int32) I7
          else
            some ((0 : Int32), I5)
        else
          sd_q2 (F_Reader_fail (4 : Int32) I) fun r8 I9 =>
          some ((vp_nar .boolean r8), I9)
      else
        F_Reader_readRow_21 p1 I
theorem G_Reader_readRow_21 {X : Nat × (Nat → Int32)} {t d D : Nat} {Q : sm_Q} {I : sm_MI} {J : sm_MJ} {p1 : Nat} {rz : Int32} {Iz : sm_MI}
    (hD : 3 ≤ D) (hp : (p1 = 21) ∨ (p1 = 41)) (h : F_Reader_readRow_21 p1 I = some (rz, Iz)) (hQ : Q (.inl (some (.int rz))) (Iz, J, sm_rf t d))  : sm_W sm_sh X (sm_C sm_sh X sm_P D) me_39 Q (21, [some (.ref 3), none, none, none], [], 0, 0) (I, J, sm_rf t d) := by
  unfold F_Reader_readRow_21 at h
  rcases hp with rfl | rfl
  · skip
    refine sm_W.run (sm_C_mono D) 2 (G := True) (fr' := (23, [some (.ref 3), none, none, none], [.int (1 : Int32), .ref 3], 0, 0)) (M' := (I, J, sm_rf t d)) rfl trivial ?_
    obtain ⟨r1, I2, hc, h⟩ := sd_q2_go h
    refine sm_W.cal (sm_C_mono D) (y := 28) (as := [.ref 3, .int (1 : Int32)]) (fr' := (24, [some (.ref 3), none, none, none], [], 0, 0)) rfl (T_Reader_fail (by omega) hc ?_)
    show sm_W sm_sh X (sm_C sm_sh X sm_P D) me_39 Q (24, [some (.ref 3), none, none, none], [.int r1], 0, 0) (I2, J, sm_rf t d)
    cases h
    exact sm_W.ret (sm_C_mono D) rfl hQ
  · skip
    refine sm_W.run (sm_C_mono D) 2 (G := True) (fr' := (23, [some (.ref 3), none, none, none], [.int (1 : Int32), .ref 3], 0, 0)) (M' := (I, J, sm_rf t d)) rfl trivial ?_
    obtain ⟨r1, I2, hc, h⟩ := sd_q2_go h
    refine sm_W.cal (sm_C_mono D) (y := 28) (as := [.ref 3, .int (1 : Int32)]) (fr' := (24, [some (.ref 3), none, none, none], [], 0, 0)) rfl (T_Reader_fail (by omega) hc ?_)
    show sm_W sm_sh X (sm_C sm_sh X sm_P D) me_39 Q (24, [some (.ref 3), none, none, none], [.int r1], 0, 0) (I2, J, sm_rf t d)
    cases h
    exact sm_W.ret (sm_C_mono D) rfl hQ
theorem G_Reader_readRow_78 {X : Nat × (Nat → Int32)} {t d D : Nat} {Q : sm_Q} {I : sm_MI} {J : sm_MJ} {p1 : Nat} {x2 : Int32} {x3 : Int32} {rz : Int32} {Iz : sm_MI}
    (hD : 3 ≤ D) (hp : (p1 = 21) ∨ (p1 = 41)) (h : F_Reader_readRow_78 p1 x2 x3 I = some (rz, Iz)) (hQ : Q (.inl (some (.int rz))) (Iz, J, sm_rf t d))  : sm_W sm_sh X (sm_C sm_sh X sm_P D) me_39 Q (78, [some (.ref 3), some (.ref p1), some (.int x2), some (.int x3)], [], 0, 0) (I, J, sm_rf t d) := by
  unfold F_Reader_readRow_78 at h
  rcases hp with rfl | rfl
  · skip
    obtain ⟨g1, h⟩ := sd_gu_go h
    refine sm_W.runL (sm_C_mono D) 5 (G := sm_in x2 20 = true ∧ True) (e := (sd_up I (21 + 7) (Int32.toNatClampNeg x2) x3)) (fr' := fun _ => (83, [some (.ref 3), some (.ref 21), some (.int x2), some (.int x3)], [], 0, 0)) (M' := fun I2 => (I2, J, sm_rf t d)) rfl h ⟨g1, trivial⟩ (fun I2 h => ?_)
    refine sm_W.run (sm_C_mono D) 1 (G := True) (fr' := (84, [some (.ref 3), some (.ref 21), some (.int x2), some (.int x3)], [.ref 3], 0, 0)) (M' := (I2, J, sm_rf t d)) rfl trivial ?_
    obtain ⟨r3, hc, h⟩ := sd_q1_go h
    refine sm_W.cal (sm_C_mono D) (y := 31) (as := [.ref 3]) (fr' := (85, [some (.ref 3), some (.ref 21), some (.int x2), some (.int x3)], [], 0, 0)) rfl (T_Reader_atNumber (by omega) hc ?_)
    show sm_W sm_sh X (sm_C sm_sh X sm_P D) me_39 Q (85, [some (.ref 3), some (.ref 21), some (.int x2), some (.int x3)], [.int r3], 0, 0) (I2, J, sm_rf t d)
    refine sm_W.run (sm_C_mono D) 1 (G := True) (fr' := (if decide (r3 = 0) = true then 90 else 86, [some (.ref 3), some (.ref 21), some (.int x2), some (.int x3)], [], 0, 0)) (M' := (I2, J, sm_rf t d)) rfl trivial (sm_W.iteD h (fun hc h => ?_) (fun hc h => ?_))
    · refine sm_W.run (sm_C_mono D) 2 (G := True) (fr' := (93, [some (.ref 3), some (.ref 21), some (.int x2), some (.int x3)], [.int (1 : Int32)], 0, 0)) (M' := (I2, J, sm_rf t d)) rfl trivial ?_
      cases h
      exact sm_W.ret (sm_C_mono D) rfl hQ
    · refine sm_W.run (sm_C_mono D) 2 (G := True) (fr' := (88, [some (.ref 3), some (.ref 21), some (.int x2), some (.int x3)], [.int (2 : Int32), .ref 3], 0, 0)) (M' := (I2, J, sm_rf t d)) rfl trivial ?_
      obtain ⟨r4, I5, hc, h⟩ := sd_q2_go h
      refine sm_W.cal (sm_C_mono D) (y := 28) (as := [.ref 3, .int (2 : Int32)]) (fr' := (89, [some (.ref 3), some (.ref 21), some (.int x2), some (.int x3)], [], 0, 0)) rfl (T_Reader_fail (by omega) hc ?_)
      show sm_W sm_sh X (sm_C sm_sh X sm_P D) me_39 Q (89, [some (.ref 3), some (.ref 21), some (.int x2), some (.int x3)], [.int r4], 0, 0) (I5, J, sm_rf t d)
      refine sm_W.run (sm_C_mono D) 1 (G := True) (fr' := (if decide (r4 = 0) = true then 92 else 90, [some (.ref 3), some (.ref 21), some (.int x2), some (.int x3)], [], 0, 0)) (M' := (I5, J, sm_rf t d)) rfl trivial (sm_W.iteD h (fun hc h => ?_) (fun hc h => ?_))
      · refine sm_W.run (sm_C_mono D) 1 (G := True) (fr' := (93, [some (.ref 3), some (.ref 21), some (.int x2), some (.int x3)], [.int (0 : Int32)], 0, 0)) (M' := (I5, J, sm_rf t d)) rfl trivial ?_
        cases h
        exact sm_W.ret (sm_C_mono D) rfl hQ
      · refine sm_W.run (sm_C_mono D) 2 (G := True) (fr' := (93, [some (.ref 3), some (.ref 21), some (.int x2), some (.int x3)], [.int (1 : Int32)], 0, 0)) (M' := (I5, J, sm_rf t d)) rfl trivial ?_
        cases h
        exact sm_W.ret (sm_C_mono D) rfl hQ
  · skip
    obtain ⟨g1, h⟩ := sd_gu_go h
    refine sm_W.runL (sm_C_mono D) 5 (G := sm_in x2 20 = true ∧ True) (e := (sd_up I (41 + 7) (Int32.toNatClampNeg x2) x3)) (fr' := fun _ => (83, [some (.ref 3), some (.ref 41), some (.int x2), some (.int x3)], [], 0, 0)) (M' := fun I2 => (I2, J, sm_rf t d)) rfl h ⟨g1, trivial⟩ (fun I2 h => ?_)
    refine sm_W.run (sm_C_mono D) 1 (G := True) (fr' := (84, [some (.ref 3), some (.ref 41), some (.int x2), some (.int x3)], [.ref 3], 0, 0)) (M' := (I2, J, sm_rf t d)) rfl trivial ?_
    obtain ⟨r3, hc, h⟩ := sd_q1_go h
    refine sm_W.cal (sm_C_mono D) (y := 31) (as := [.ref 3]) (fr' := (85, [some (.ref 3), some (.ref 41), some (.int x2), some (.int x3)], [], 0, 0)) rfl (T_Reader_atNumber (by omega) hc ?_)
    show sm_W sm_sh X (sm_C sm_sh X sm_P D) me_39 Q (85, [some (.ref 3), some (.ref 41), some (.int x2), some (.int x3)], [.int r3], 0, 0) (I2, J, sm_rf t d)
    refine sm_W.run (sm_C_mono D) 1 (G := True) (fr' := (if decide (r3 = 0) = true then 90 else 86, [some (.ref 3), some (.ref 41), some (.int x2), some (.int x3)], [], 0, 0)) (M' := (I2, J, sm_rf t d)) rfl trivial (sm_W.iteD h (fun hc h => ?_) (fun hc h => ?_))
    · refine sm_W.run (sm_C_mono D) 2 (G := True) (fr' := (93, [some (.ref 3), some (.ref 41), some (.int x2), some (.int x3)], [.int (1 : Int32)], 0, 0)) (M' := (I2, J, sm_rf t d)) rfl trivial ?_
      cases h
      exact sm_W.ret (sm_C_mono D) rfl hQ
    · refine sm_W.run (sm_C_mono D) 2 (G := True) (fr' := (88, [some (.ref 3), some (.ref 41), some (.int x2), some (.int x3)], [.int (2 : Int32), .ref 3], 0, 0)) (M' := (I2, J, sm_rf t d)) rfl trivial ?_
      obtain ⟨r4, I5, hc, h⟩ := sd_q2_go h
      refine sm_W.cal (sm_C_mono D) (y := 28) (as := [.ref 3, .int (2 : Int32)]) (fr' := (89, [some (.ref 3), some (.ref 41), some (.int x2), some (.int x3)], [], 0, 0)) rfl (T_Reader_fail (by omega) hc ?_)
      show sm_W sm_sh X (sm_C sm_sh X sm_P D) me_39 Q (89, [some (.ref 3), some (.ref 41), some (.int x2), some (.int x3)], [.int r4], 0, 0) (I5, J, sm_rf t d)
      refine sm_W.run (sm_C_mono D) 1 (G := True) (fr' := (if decide (r4 = 0) = true then 92 else 90, [some (.ref 3), some (.ref 41), some (.int x2), some (.int x3)], [], 0, 0)) (M' := (I5, J, sm_rf t d)) rfl trivial (sm_W.iteD h (fun hc h => ?_) (fun hc h => ?_))
      · refine sm_W.run (sm_C_mono D) 1 (G := True) (fr' := (93, [some (.ref 3), some (.ref 41), some (.int x2), some (.int x3)], [.int (0 : Int32)], 0, 0)) (M' := (I5, J, sm_rf t d)) rfl trivial ?_
        cases h
        exact sm_W.ret (sm_C_mono D) rfl hQ
      · refine sm_W.run (sm_C_mono D) 2 (G := True) (fr' := (93, [some (.ref 3), some (.ref 41), some (.int x2), some (.int x3)], [.int (1 : Int32)], 0, 0)) (M' := (I5, J, sm_rf t d)) rfl trivial ?_
        cases h
        exact sm_W.ret (sm_C_mono D) rfl hQ
theorem G_Reader_readRow_59 {X : Nat × (Nat → Int32)} {t d D : Nat} {Q : sm_Q} {I : sm_MI} {J : sm_MJ} {p1 : Nat} {k51 : Int32 → Int32 → sm_MI → Option (Int32 × sm_MI)} {x2 : Int32} {x3 : Int32} {rz : Int32} {Iz : sm_MI}
    (hD : 3 ≤ D) (hp : (p1 = 21) ∨ (p1 = 41)) (h : F_Reader_readRow_59 p1 k51 x2 x3 I = some (rz, Iz)) (hQ : Q (.inl (some (.int rz))) (Iz, J, sm_rf t d)) (hk51 : ∀ (x2 : Int32) (x3 : Int32) (I : sm_MI), k51 x2 x3 I = some (rz, Iz) → sm_W sm_sh X (sm_C sm_sh X sm_P D) me_39 Q (51, [some (.ref 3), some (.ref p1), some (.int x2), some (.int x3)], [], 0, 0) (I, J, sm_rf t d)) : sm_W sm_sh X (sm_C sm_sh X sm_P D) me_39 Q (59, [some (.ref 3), some (.ref p1), some (.int x2), some (.int x3)], [], 0, 0) (I, J, sm_rf t d) := by
  unfold F_Reader_readRow_59 at h
  rcases hp with rfl | rfl
  · skip
    refine sm_W.run (sm_C_mono D) 3 (G := True) (fr' := (62, [some (.ref 3), some (.ref 21), some (.int x2), some (.int x3)], [.int (48 : Int32), .int (0 : Int32), .ref 3], 0, 0)) (M' := (I, J, sm_rf t d)) rfl trivial ?_
    obtain ⟨r1, I2, hc, h⟩ := sd_q2_go h
    refine sm_W.cal (sm_C_mono D) (y := 36) (as := [.ref 3, .int (0 : Int32), .int (48 : Int32)]) (fr' := (63, [some (.ref 3), some (.ref 21), some (.int x2), some (.int x3)], [], 0, 0)) rfl (T_Reader_readNumber (by omega) hc ?_)
    show sm_W sm_sh X (sm_C sm_sh X sm_P D) me_39 Q (63, [some (.ref 3), some (.ref 21), some (.int x2), some (.int x3)], [.int r1], 0, 0) (I2, J, sm_rf t d)
    refine sm_W.run (sm_C_mono D) 1 (G := True) (fr' := (if decide (¬ r1 = 0) = true then 66 else 64, [some (.ref 3), some (.ref 21), some (.int x2), some (.int x3)], [], 0, 0)) (M' := (I2, J, sm_rf t d)) rfl trivial (sm_W.iteD h (fun hc h => ?_) (fun hc h => ?_))
    · obtain ⟨g3, h⟩ := sd_gu_go h
      refine sm_W.runL (sm_C_mono D) 10 (G := sm_in ((x2 * (12 : Int32)) + x3) 240 = true ∧ True) (e := (sd_up I2 (21 + 8) (Int32.toNatClampNeg ((x2 * (12 : Int32)) + x3)) (I2 3 3))) (fr' := fun _ => (76, [some (.ref 3), some (.ref 21), some (.int x2), some (.int x3)], [], 0, 0)) (M' := fun I4 => (I4, J, sm_rf t d)) rfl h ⟨g3, trivial⟩ (fun I4 h => ?_)
      refine sm_W.run (sm_C_mono D) 2 (G := True) (fr' := (51, [some (.ref 3), some (.ref 21), some (.int x2), some (.int (x3 + (1 : Int32)))], [], 0, 0)) (M' := (I4, J, sm_rf t d)) rfl trivial ?_
      exact (hk51 _ _ _ h)
    · refine sm_W.run (sm_C_mono D) 1 (G := True) (fr' := (65, [some (.ref 3), some (.ref 21), some (.int x2), some (.int x3)], [.int (0 : Int32)], 0, 0)) (M' := (I2, J, sm_rf t d)) rfl trivial ?_
      cases h
      exact sm_W.ret (sm_C_mono D) rfl hQ
  · skip
    refine sm_W.run (sm_C_mono D) 3 (G := True) (fr' := (62, [some (.ref 3), some (.ref 41), some (.int x2), some (.int x3)], [.int (48 : Int32), .int (0 : Int32), .ref 3], 0, 0)) (M' := (I, J, sm_rf t d)) rfl trivial ?_
    obtain ⟨r1, I2, hc, h⟩ := sd_q2_go h
    refine sm_W.cal (sm_C_mono D) (y := 36) (as := [.ref 3, .int (0 : Int32), .int (48 : Int32)]) (fr' := (63, [some (.ref 3), some (.ref 41), some (.int x2), some (.int x3)], [], 0, 0)) rfl (T_Reader_readNumber (by omega) hc ?_)
    show sm_W sm_sh X (sm_C sm_sh X sm_P D) me_39 Q (63, [some (.ref 3), some (.ref 41), some (.int x2), some (.int x3)], [.int r1], 0, 0) (I2, J, sm_rf t d)
    refine sm_W.run (sm_C_mono D) 1 (G := True) (fr' := (if decide (¬ r1 = 0) = true then 66 else 64, [some (.ref 3), some (.ref 41), some (.int x2), some (.int x3)], [], 0, 0)) (M' := (I2, J, sm_rf t d)) rfl trivial (sm_W.iteD h (fun hc h => ?_) (fun hc h => ?_))
    · obtain ⟨g3, h⟩ := sd_gu_go h
      refine sm_W.runL (sm_C_mono D) 10 (G := sm_in ((x2 * (12 : Int32)) + x3) 240 = true ∧ True) (e := (sd_up I2 (41 + 8) (Int32.toNatClampNeg ((x2 * (12 : Int32)) + x3)) (I2 3 3))) (fr' := fun _ => (76, [some (.ref 3), some (.ref 41), some (.int x2), some (.int x3)], [], 0, 0)) (M' := fun I4 => (I4, J, sm_rf t d)) rfl h ⟨g3, trivial⟩ (fun I4 h => ?_)
      refine sm_W.run (sm_C_mono D) 2 (G := True) (fr' := (51, [some (.ref 3), some (.ref 41), some (.int x2), some (.int (x3 + (1 : Int32)))], [], 0, 0)) (M' := (I4, J, sm_rf t d)) rfl trivial ?_
      exact (hk51 _ _ _ h)
    · refine sm_W.run (sm_C_mono D) 1 (G := True) (fr' := (65, [some (.ref 3), some (.ref 41), some (.int x2), some (.int x3)], [.int (0 : Int32)], 0, 0)) (M' := (I2, J, sm_rf t d)) rfl trivial ?_
      cases h
      exact sm_W.ret (sm_C_mono D) rfl hQ
theorem G_Reader_readRow_51B {X : Nat × (Nat → Int32)} {t d D : Nat} {Q : sm_Q} {I : sm_MI} {J : sm_MJ} {p1 : Nat} {k51 : Int32 → Int32 → sm_MI → Option (Int32 × sm_MI)} {x2 : Int32} {x3 : Int32} {rz : Int32} {Iz : sm_MI}
    (hD : 3 ≤ D) (hp : (p1 = 21) ∨ (p1 = 41)) (h : F_Reader_readRow_51B p1 k51 x2 x3 I = some (rz, Iz)) (hQ : Q (.inl (some (.int rz))) (Iz, J, sm_rf t d)) (hk51 : ∀ (x2 : Int32) (x3 : Int32) (I : sm_MI), k51 x2 x3 I = some (rz, Iz) → sm_W sm_sh X (sm_C sm_sh X sm_P D) me_39 Q (51, [some (.ref 3), some (.ref p1), some (.int x2), some (.int x3)], [], 0, 0) (I, J, sm_rf t d)) : sm_W sm_sh X (sm_C sm_sh X sm_P D) me_39 Q (51, [some (.ref 3), some (.ref p1), some (.int x2), some (.int x3)], [], 0, 0) (I, J, sm_rf t d) := by
  unfold F_Reader_readRow_51B at h
  rcases hp with rfl | rfl
  · skip
    refine sm_W.run (sm_C_mono D) 3 (G := True) (fr' := (if decide ((12 : Int32) ≤ x3) = true then 78 else 54, [some (.ref 3), some (.ref 21), some (.int x2), some (.int x3)], [], 0, 0)) (M' := (I, J, sm_rf t d)) rfl trivial (sm_W.iteD h (fun hc h => ?_) (fun hc h => ?_))
    · exact (G_Reader_readRow_78 hD (by decide) h hQ)
    · refine sm_W.run (sm_C_mono D) 2 (G := True) (fr' := (if decide (x3 = 0) = true then 59 else 56, [some (.ref 3), some (.ref 21), some (.int x2), some (.int x3)], [], 0, 0)) (M' := (I, J, sm_rf t d)) rfl trivial (sm_W.iteD h (fun hc h => ?_) (fun hc h => ?_))
      · exact (G_Reader_readRow_59 hD (by decide) h hQ hk51)
      · refine sm_W.run (sm_C_mono D) 1 (G := True) (fr' := (57, [some (.ref 3), some (.ref 21), some (.int x2), some (.int x3)], [.ref 3], 0, 0)) (M' := (I, J, sm_rf t d)) rfl trivial ?_
        obtain ⟨r1, hc, h⟩ := sd_q1_go h
        refine sm_W.cal (sm_C_mono D) (y := 31) (as := [.ref 3]) (fr' := (58, [some (.ref 3), some (.ref 21), some (.int x2), some (.int x3)], [], 0, 0)) rfl (T_Reader_atNumber (by omega) hc ?_)
        show sm_W sm_sh X (sm_C sm_sh X sm_P D) me_39 Q (58, [some (.ref 3), some (.ref 21), some (.int x2), some (.int x3)], [.int r1], 0, 0) (I, J, sm_rf t d)
        refine sm_W.run (sm_C_mono D) 1 (G := True) (fr' := (if decide (r1 = 0) = true then 78 else 59, [some (.ref 3), some (.ref 21), some (.int x2), some (.int x3)], [], 0, 0)) (M' := (I, J, sm_rf t d)) rfl trivial (sm_W.iteD h (fun hc h => ?_) (fun hc h => ?_))
        · exact (G_Reader_readRow_78 hD (by decide) h hQ)
        · exact (G_Reader_readRow_59 hD (by decide) h hQ hk51)
  · skip
    refine sm_W.run (sm_C_mono D) 3 (G := True) (fr' := (if decide ((12 : Int32) ≤ x3) = true then 78 else 54, [some (.ref 3), some (.ref 41), some (.int x2), some (.int x3)], [], 0, 0)) (M' := (I, J, sm_rf t d)) rfl trivial (sm_W.iteD h (fun hc h => ?_) (fun hc h => ?_))
    · exact (G_Reader_readRow_78 hD (by decide) h hQ)
    · refine sm_W.run (sm_C_mono D) 2 (G := True) (fr' := (if decide (x3 = 0) = true then 59 else 56, [some (.ref 3), some (.ref 41), some (.int x2), some (.int x3)], [], 0, 0)) (M' := (I, J, sm_rf t d)) rfl trivial (sm_W.iteD h (fun hc h => ?_) (fun hc h => ?_))
      · exact (G_Reader_readRow_59 hD (by decide) h hQ hk51)
      · refine sm_W.run (sm_C_mono D) 1 (G := True) (fr' := (57, [some (.ref 3), some (.ref 41), some (.int x2), some (.int x3)], [.ref 3], 0, 0)) (M' := (I, J, sm_rf t d)) rfl trivial ?_
        obtain ⟨r1, hc, h⟩ := sd_q1_go h
        refine sm_W.cal (sm_C_mono D) (y := 31) (as := [.ref 3]) (fr' := (58, [some (.ref 3), some (.ref 41), some (.int x2), some (.int x3)], [], 0, 0)) rfl (T_Reader_atNumber (by omega) hc ?_)
        show sm_W sm_sh X (sm_C sm_sh X sm_P D) me_39 Q (58, [some (.ref 3), some (.ref 41), some (.int x2), some (.int x3)], [.int r1], 0, 0) (I, J, sm_rf t d)
        refine sm_W.run (sm_C_mono D) 1 (G := True) (fr' := (if decide (r1 = 0) = true then 78 else 59, [some (.ref 3), some (.ref 41), some (.int x2), some (.int x3)], [], 0, 0)) (M' := (I, J, sm_rf t d)) rfl trivial (sm_W.iteD h (fun hc h => ?_) (fun hc h => ?_))
        · exact (G_Reader_readRow_78 hD (by decide) h hQ)
        · exact (G_Reader_readRow_59 hD (by decide) h hQ hk51)
theorem G_Reader_readRow_51 {X : Nat × (Nat → Int32)} {t d D : Nat} {Q : sm_Q} {J : sm_MJ} {p1 : Nat} {rz : Int32} {Iz : sm_MI}
    (hD : 3 ≤ D) (hp : (p1 = 21) ∨ (p1 = 41)) (hQ : Q (.inl (some (.int rz))) (Iz, J, sm_rf t d))  : ∀ (n : Nat) (x2 : Int32) (x3 : Int32) (I : sm_MI), F_Reader_readRow_51 p1 n x2 x3 I = some (rz, Iz) → sm_W sm_sh X (sm_C sm_sh X sm_P D) me_39 Q (51, [some (.ref 3), some (.ref p1), some (.int x2), some (.int x3)], [], 0, 0) (I, J, sm_rf t d) := by
  intro n
  induction n with
  | zero => intro x2 x3 I h; cases (show (none : Option (Int32 × sm_MI)) = some (rz, Iz) from h)
  | succ n ih => intro x2 x3 I h; exact G_Reader_readRow_51B hD hp (show F_Reader_readRow_51B p1 (F_Reader_readRow_51 p1 n) x2 x3 I = some (rz, Iz) from h) hQ  ih
theorem G_Reader_readRow {X : Nat × (Nat → Int32)} {t d D : Nat} {Q : sm_Q} {I : sm_MI} {J : sm_MJ} {p1 : Nat} {rz : Int32} {Iz : sm_MI}
    (hD : 3 ≤ D) (hp : (p1 = 21) ∨ (p1 = 41)) (h : F_Reader_readRow p1 I = some (rz, Iz)) (hQ : Q (.inl (some (.int rz))) (Iz, J, sm_rf t d))  : sm_W sm_sh X (sm_C sm_sh X sm_P D) me_39 Q (0, [some (.ref 3), some (.ref p1), none, none], [], 0, 0) (I, J, sm_rf t d) := by
  unfold F_Reader_readRow at h
  rcases hp with rfl | rfl
  · skip
    refine sm_W.runL (sm_C_mono D) 12 (G := True) (e := (((((I 21 1) - (1 : Int32)) * (4 : Int32)) + (I 3 2)) - (3 : Int32))) (fr' := fun a1 => (12, [some (.ref 3), some (.ref 21), some (.int a1), none], [], 0, 0)) (M' := fun _ => (I, J, sm_rf t d)) rfl h trivial (fun a1 h => ?_)
    refine sm_W.run (sm_C_mono D) 4 (G := True) (fr' := (if decide ((I 21 1) < (1 : Int32)) = true then 21 else 16, [some (.ref 3), some (.ref 21), some (.int a1), none], [], 0, 0)) (M' := (I, J, sm_rf t d)) rfl trivial (sm_W.iteD h (fun hc h => ?_) (fun hc h => ?_))
    · exact sm_W.forget (L' := [some (.ref 3), none, none, none]) ⟨rfl, trivial⟩ (G_Reader_readRow_21 hD (by decide) h hQ)
    · refine sm_W.run (sm_C_mono D) 2 (G := True) (fr' := (if decide (a1 < 0) = true then 21 else 18, [some (.ref 3), some (.ref 21), some (.int a1), none], [], 0, 0)) (M' := (I, J, sm_rf t d)) rfl trivial (sm_W.iteD h (fun hc h => ?_) (fun hc h => ?_))
      · exact sm_W.forget (L' := [some (.ref 3), none, none, none]) ⟨rfl, trivial⟩ (G_Reader_readRow_21 hD (by decide) h hQ)
      · refine sm_W.run (sm_C_mono D) 3 (G := True) (fr' := (if decide (a1 < (20 : Int32)) = true then 25 else 21, [some (.ref 3), some (.ref 21), some (.int a1), none], [], 0, 0)) (M' := (I, J, sm_rf t d)) rfl trivial (sm_W.iteD h (fun hc h => ?_) (fun hc h => ?_))
        · obtain ⟨g2, h⟩ := sd_gu_go h
          refine sm_W.run (sm_C_mono D) 5 (G := sm_in a1 20 = true ∧ True) (fr' := (if decide ((I (21 + 6) (Int32.toNatClampNeg a1)) = 0) = true then 34 else 30, [some (.ref 3), some (.ref 21), some (.int a1), none], [], 0, 0)) (M' := (I, J, sm_rf t d)) rfl ⟨g2, trivial⟩ (sm_W.iteD h (fun hc h => ?_) (fun hc h => ?_))
          · refine sm_W.run (sm_C_mono D) 1 (G := True) (fr' := (35, [some (.ref 3), some (.ref 21), some (.int a1), none], [.ref 3], 0, 0)) (M' := (I, J, sm_rf t d)) rfl trivial ?_
            obtain ⟨I3, hc, h⟩ := sd_q1_go h
            refine sm_W.cal (sm_C_mono D) (y := 29) (as := [.ref 3]) (fr' := (36, [some (.ref 3), some (.ref 21), some (.int a1), none], [], 0, 0)) rfl (T_Reader_step (by omega) hc ?_)
            show sm_W sm_sh X (sm_C sm_sh X sm_P D) me_39 Q (36, [some (.ref 3), some (.ref 21), some (.int a1), none], [], 0, 0) (I3, J, sm_rf t d)
            refine sm_W.run (sm_C_mono D) 3 (G := True) (fr' := (39, [some (.ref 3), some (.ref 21), some (.int a1), none], [.int (4 : Int32), .int (1 : Int32), .ref 3], 0, 0)) (M' := (I3, J, sm_rf t d)) rfl trivial ?_
            obtain ⟨r4, I5, hc, h⟩ := sd_q2_go h
            refine sm_W.cal (sm_C_mono D) (y := 36) (as := [.ref 3, .int (1 : Int32), .int (4 : Int32)]) (fr' := (40, [some (.ref 3), some (.ref 21), some (.int a1), none], [], 0, 0)) rfl (T_Reader_readNumber (by omega) hc ?_)
            show sm_W sm_sh X (sm_C sm_sh X sm_P D) me_39 Q (40, [some (.ref 3), some (.ref 21), some (.int a1), none], [.int r4], 0, 0) (I5, J, sm_rf t d)
            refine sm_W.run (sm_C_mono D) 1 (G := True) (fr' := (if decide (¬ r4 = 0) = true then 43 else 41, [some (.ref 3), some (.ref 21), some (.int a1), none], [], 0, 0)) (M' := (I5, J, sm_rf t d)) rfl trivial (sm_W.iteD h (fun hc h => ?_) (fun hc h => ?_))
            · obtain ⟨g6, h⟩ := sd_gu_go h
              refine sm_W.runL (sm_C_mono D) 6 (G := sm_in a1 20 = true ∧ True) (e := (sd_up I5 (21 + 6) (Int32.toNatClampNeg a1) (I5 3 3))) (fr' := fun _ => (49, [some (.ref 3), some (.ref 21), some (.int a1), none], [], 0, 0)) (M' := fun I7 => (I7, J, sm_rf t d)) rfl h ⟨g6, trivial⟩ (fun I7 h => ?_)
              refine sm_W.run (sm_C_mono D) 2 (G := True) (fr' := (51, [some (.ref 3), some (.ref 21), some (.int a1), some (.int (0 : Int32))], [], 0, 0)) (M' := (I7, J, sm_rf t d)) rfl trivial ?_
              exact (G_Reader_readRow_51 hD (by decide) hQ sd_fu _ _ _ h)
            · refine sm_W.run (sm_C_mono D) 1 (G := True) (fr' := (42, [some (.ref 3), some (.ref 21), some (.int a1), none], [.int (0 : Int32)], 0, 0)) (M' := (I5, J, sm_rf t d)) rfl trivial ?_
              cases h
              exact sm_W.ret (sm_C_mono D) rfl hQ
          · refine sm_W.run (sm_C_mono D) 2 (G := True) (fr' := (32, [some (.ref 3), some (.ref 21), some (.int a1), none], [.int (4 : Int32), .ref 3], 0, 0)) (M' := (I, J, sm_rf t d)) rfl trivial ?_
            obtain ⟨r8, I9, hc, h⟩ := sd_q2_go h
            refine sm_W.cal (sm_C_mono D) (y := 28) (as := [.ref 3, .int (4 : Int32)]) (fr' := (33, [some (.ref 3), some (.ref 21), some (.int a1), none], [], 0, 0)) rfl (T_Reader_fail (by omega) hc ?_)
            show sm_W sm_sh X (sm_C sm_sh X sm_P D) me_39 Q (33, [some (.ref 3), some (.ref 21), some (.int a1), none], [.int r8], 0, 0) (I9, J, sm_rf t d)
            cases h
            exact sm_W.ret (sm_C_mono D) rfl hQ
        · exact sm_W.forget (L' := [some (.ref 3), none, none, none]) ⟨rfl, trivial⟩ (G_Reader_readRow_21 hD (by decide) h hQ)
  · skip
    refine sm_W.runL (sm_C_mono D) 12 (G := True) (e := (((((I 41 1) - (1 : Int32)) * (4 : Int32)) + (I 3 2)) - (3 : Int32))) (fr' := fun a1 => (12, [some (.ref 3), some (.ref 41), some (.int a1), none], [], 0, 0)) (M' := fun _ => (I, J, sm_rf t d)) rfl h trivial (fun a1 h => ?_)
    refine sm_W.run (sm_C_mono D) 4 (G := True) (fr' := (if decide ((I 41 1) < (1 : Int32)) = true then 21 else 16, [some (.ref 3), some (.ref 41), some (.int a1), none], [], 0, 0)) (M' := (I, J, sm_rf t d)) rfl trivial (sm_W.iteD h (fun hc h => ?_) (fun hc h => ?_))
    · exact sm_W.forget (L' := [some (.ref 3), none, none, none]) ⟨rfl, trivial⟩ (G_Reader_readRow_21 hD (by decide) h hQ)
    · refine sm_W.run (sm_C_mono D) 2 (G := True) (fr' := (if decide (a1 < 0) = true then 21 else 18, [some (.ref 3), some (.ref 41), some (.int a1), none], [], 0, 0)) (M' := (I, J, sm_rf t d)) rfl trivial (sm_W.iteD h (fun hc h => ?_) (fun hc h => ?_))
      · exact sm_W.forget (L' := [some (.ref 3), none, none, none]) ⟨rfl, trivial⟩ (G_Reader_readRow_21 hD (by decide) h hQ)
      · refine sm_W.run (sm_C_mono D) 3 (G := True) (fr' := (if decide (a1 < (20 : Int32)) = true then 25 else 21, [some (.ref 3), some (.ref 41), some (.int a1), none], [], 0, 0)) (M' := (I, J, sm_rf t d)) rfl trivial (sm_W.iteD h (fun hc h => ?_) (fun hc h => ?_))
        · obtain ⟨g2, h⟩ := sd_gu_go h
          refine sm_W.run (sm_C_mono D) 5 (G := sm_in a1 20 = true ∧ True) (fr' := (if decide ((I (41 + 6) (Int32.toNatClampNeg a1)) = 0) = true then 34 else 30, [some (.ref 3), some (.ref 41), some (.int a1), none], [], 0, 0)) (M' := (I, J, sm_rf t d)) rfl ⟨g2, trivial⟩ (sm_W.iteD h (fun hc h => ?_) (fun hc h => ?_))
          · refine sm_W.run (sm_C_mono D) 1 (G := True) (fr' := (35, [some (.ref 3), some (.ref 41), some (.int a1), none], [.ref 3], 0, 0)) (M' := (I, J, sm_rf t d)) rfl trivial ?_
            obtain ⟨I3, hc, h⟩ := sd_q1_go h
            refine sm_W.cal (sm_C_mono D) (y := 29) (as := [.ref 3]) (fr' := (36, [some (.ref 3), some (.ref 41), some (.int a1), none], [], 0, 0)) rfl (T_Reader_step (by omega) hc ?_)
            show sm_W sm_sh X (sm_C sm_sh X sm_P D) me_39 Q (36, [some (.ref 3), some (.ref 41), some (.int a1), none], [], 0, 0) (I3, J, sm_rf t d)
            refine sm_W.run (sm_C_mono D) 3 (G := True) (fr' := (39, [some (.ref 3), some (.ref 41), some (.int a1), none], [.int (4 : Int32), .int (1 : Int32), .ref 3], 0, 0)) (M' := (I3, J, sm_rf t d)) rfl trivial ?_
            obtain ⟨r4, I5, hc, h⟩ := sd_q2_go h
            refine sm_W.cal (sm_C_mono D) (y := 36) (as := [.ref 3, .int (1 : Int32), .int (4 : Int32)]) (fr' := (40, [some (.ref 3), some (.ref 41), some (.int a1), none], [], 0, 0)) rfl (T_Reader_readNumber (by omega) hc ?_)
            show sm_W sm_sh X (sm_C sm_sh X sm_P D) me_39 Q (40, [some (.ref 3), some (.ref 41), some (.int a1), none], [.int r4], 0, 0) (I5, J, sm_rf t d)
            refine sm_W.run (sm_C_mono D) 1 (G := True) (fr' := (if decide (¬ r4 = 0) = true then 43 else 41, [some (.ref 3), some (.ref 41), some (.int a1), none], [], 0, 0)) (M' := (I5, J, sm_rf t d)) rfl trivial (sm_W.iteD h (fun hc h => ?_) (fun hc h => ?_))
            · obtain ⟨g6, h⟩ := sd_gu_go h
              refine sm_W.runL (sm_C_mono D) 6 (G := sm_in a1 20 = true ∧ True) (e := (sd_up I5 (41 + 6) (Int32.toNatClampNeg a1) (I5 3 3))) (fr' := fun _ => (49, [some (.ref 3), some (.ref 41), some (.int a1), none], [], 0, 0)) (M' := fun I7 => (I7, J, sm_rf t d)) rfl h ⟨g6, trivial⟩ (fun I7 h => ?_)
              refine sm_W.run (sm_C_mono D) 2 (G := True) (fr' := (51, [some (.ref 3), some (.ref 41), some (.int a1), some (.int (0 : Int32))], [], 0, 0)) (M' := (I7, J, sm_rf t d)) rfl trivial ?_
              exact (G_Reader_readRow_51 hD (by decide) hQ sd_fu _ _ _ h)
            · refine sm_W.run (sm_C_mono D) 1 (G := True) (fr' := (42, [some (.ref 3), some (.ref 41), some (.int a1), none], [.int (0 : Int32)], 0, 0)) (M' := (I5, J, sm_rf t d)) rfl trivial ?_
              cases h
              exact sm_W.ret (sm_C_mono D) rfl hQ
          · refine sm_W.run (sm_C_mono D) 2 (G := True) (fr' := (32, [some (.ref 3), some (.ref 41), some (.int a1), none], [.int (4 : Int32), .ref 3], 0, 0)) (M' := (I, J, sm_rf t d)) rfl trivial ?_
            obtain ⟨r8, I9, hc, h⟩ := sd_q2_go h
            refine sm_W.cal (sm_C_mono D) (y := 28) (as := [.ref 3, .int (4 : Int32)]) (fr' := (33, [some (.ref 3), some (.ref 41), some (.int a1), none], [], 0, 0)) rfl (T_Reader_fail (by omega) hc ?_)
            show sm_W sm_sh X (sm_C sm_sh X sm_P D) me_39 Q (33, [some (.ref 3), some (.ref 41), some (.int a1), none], [.int r8], 0, 0) (I9, J, sm_rf t d)
            cases h
            exact sm_W.ret (sm_C_mono D) rfl hQ
        · exact sm_W.forget (L' := [some (.ref 3), none, none, none]) ⟨rfl, trivial⟩ (G_Reader_readRow_21 hD (by decide) h hQ)
theorem T_Reader_readRow {X : Nat × (Nat → Int32)} {t d D : Nat} {Q : sm_Q} {I : sm_MI} {J : sm_MJ} {p1 : Nat} {rz : Int32} {Iz : sm_MI}
    (hD : 4 ≤ D) (hp : (p1 = 21) ∨ (p1 = 41)) (h : F_Reader_readRow p1 I = some (rz, Iz)) (hQ : Q (.inl (some (.int rz))) (Iz, J, sm_rf t d)) : sm_C sm_sh X sm_P D 39 [.ref 3, .ref p1] (I, J, sm_rf t d) Q := by
  cases D with
  | zero => omega
  | succ D => exact sm_C.of (me := me_39) (L := [some (.ref 3), some (.ref p1), none, none]) rfl rfl rfl (sm_W.forget (L' := [some (.ref 3), some (.ref p1), none, none]) ⟨rfl, ⟨rfl, trivial⟩⟩ (G_Reader_readRow (by omega) hp h hQ))
-- 40 Reader_readEvery
noncomputable def F_Reader_readEvery (p1 : Nat) (I : sm_MI) : Option (Int32 × sm_MI) :=
  if (I 3 4) = 0 then
    sd_lt (sd_up I 3 4 (1 : Int32)) fun I1 =>
    sd_q1 (F_Reader_step I1) fun I2 =>
    sd_q2 (F_Reader_readNumber (1 : Int32) (9 : Int32) I2) fun r3 I4 =>
    if ¬ r3 = 0 then
      sd_lt (sd_up I4 p1 2 (I4 3 3)) fun I5 =>
      some ((1 : Int32), I5)
    else
      some ((0 : Int32), I4)
  else
    sd_q2 (F_Reader_fail (5 : Int32) I) fun r6 I7 =>
    some ((vp_nar .boolean r6), I7)
theorem G_Reader_readEvery {X : Nat × (Nat → Int32)} {t d D : Nat} {Q : sm_Q} {I : sm_MI} {J : sm_MJ} {p1 : Nat} {rz : Int32} {Iz : sm_MI}
    (hD : 3 ≤ D) (hp : (p1 = 21) ∨ (p1 = 41)) (h : F_Reader_readEvery p1 I = some (rz, Iz)) (hQ : Q (.inl (some (.int rz))) (Iz, J, sm_rf t d))  : sm_W sm_sh X (sm_C sm_sh X sm_P D) me_40 Q (0, [some (.ref 3), some (.ref p1)], [], 0, 0) (I, J, sm_rf t d) := by
  unfold F_Reader_readEvery at h
  rcases hp with rfl | rfl
  · skip
    refine sm_W.run (sm_C_mono D) 3 (G := True) (fr' := (if decide ((I 3 4) = 0) = true then 7 else 3, [some (.ref 3), some (.ref 21)], [], 0, 0)) (M' := (I, J, sm_rf t d)) rfl trivial (sm_W.iteD h (fun hc h => ?_) (fun hc h => ?_))
    · refine sm_W.runL (sm_C_mono D) 3 (G := True) (e := (sd_up I 3 4 (1 : Int32))) (fr' := fun _ => (10, [some (.ref 3), some (.ref 21)], [], 0, 0)) (M' := fun I1 => (I1, J, sm_rf t d)) rfl h trivial (fun I1 h => ?_)
      refine sm_W.run (sm_C_mono D) 1 (G := True) (fr' := (11, [some (.ref 3), some (.ref 21)], [.ref 3], 0, 0)) (M' := (I1, J, sm_rf t d)) rfl trivial ?_
      obtain ⟨I2, hc, h⟩ := sd_q1_go h
      refine sm_W.cal (sm_C_mono D) (y := 29) (as := [.ref 3]) (fr' := (12, [some (.ref 3), some (.ref 21)], [], 0, 0)) rfl (T_Reader_step (by omega) hc ?_)
      show sm_W sm_sh X (sm_C sm_sh X sm_P D) me_40 Q (12, [some (.ref 3), some (.ref 21)], [], 0, 0) (I2, J, sm_rf t d)
      refine sm_W.run (sm_C_mono D) 3 (G := True) (fr' := (15, [some (.ref 3), some (.ref 21)], [.int (9 : Int32), .int (1 : Int32), .ref 3], 0, 0)) (M' := (I2, J, sm_rf t d)) rfl trivial ?_
      obtain ⟨r3, I4, hc, h⟩ := sd_q2_go h
      refine sm_W.cal (sm_C_mono D) (y := 36) (as := [.ref 3, .int (1 : Int32), .int (9 : Int32)]) (fr' := (16, [some (.ref 3), some (.ref 21)], [], 0, 0)) rfl (T_Reader_readNumber (by omega) hc ?_)
      show sm_W sm_sh X (sm_C sm_sh X sm_P D) me_40 Q (16, [some (.ref 3), some (.ref 21)], [.int r3], 0, 0) (I4, J, sm_rf t d)
      refine sm_W.run (sm_C_mono D) 1 (G := True) (fr' := (if decide (¬ r3 = 0) = true then 19 else 17, [some (.ref 3), some (.ref 21)], [], 0, 0)) (M' := (I4, J, sm_rf t d)) rfl trivial (sm_W.iteD h (fun hc h => ?_) (fun hc h => ?_))
      · refine sm_W.runL (sm_C_mono D) 4 (G := True) (e := (sd_up I4 21 2 (I4 3 3))) (fr' := fun _ => (23, [some (.ref 3), some (.ref 21)], [], 0, 0)) (M' := fun I5 => (I5, J, sm_rf t d)) rfl h trivial (fun I5 h => ?_)
        refine sm_W.run (sm_C_mono D) 1 (G := True) (fr' := (24, [some (.ref 3), some (.ref 21)], [.int (1 : Int32)], 0, 0)) (M' := (I5, J, sm_rf t d)) rfl trivial ?_
        cases h
        exact sm_W.ret (sm_C_mono D) rfl hQ
      · refine sm_W.run (sm_C_mono D) 1 (G := True) (fr' := (18, [some (.ref 3), some (.ref 21)], [.int (0 : Int32)], 0, 0)) (M' := (I4, J, sm_rf t d)) rfl trivial ?_
        cases h
        exact sm_W.ret (sm_C_mono D) rfl hQ
    · refine sm_W.run (sm_C_mono D) 2 (G := True) (fr' := (5, [some (.ref 3), some (.ref 21)], [.int (5 : Int32), .ref 3], 0, 0)) (M' := (I, J, sm_rf t d)) rfl trivial ?_
      obtain ⟨r6, I7, hc, h⟩ := sd_q2_go h
      refine sm_W.cal (sm_C_mono D) (y := 28) (as := [.ref 3, .int (5 : Int32)]) (fr' := (6, [some (.ref 3), some (.ref 21)], [], 0, 0)) rfl (T_Reader_fail (by omega) hc ?_)
      show sm_W sm_sh X (sm_C sm_sh X sm_P D) me_40 Q (6, [some (.ref 3), some (.ref 21)], [.int r6], 0, 0) (I7, J, sm_rf t d)
      cases h
      exact sm_W.ret (sm_C_mono D) rfl hQ
  · skip
    refine sm_W.run (sm_C_mono D) 3 (G := True) (fr' := (if decide ((I 3 4) = 0) = true then 7 else 3, [some (.ref 3), some (.ref 41)], [], 0, 0)) (M' := (I, J, sm_rf t d)) rfl trivial (sm_W.iteD h (fun hc h => ?_) (fun hc h => ?_))
    · refine sm_W.runL (sm_C_mono D) 3 (G := True) (e := (sd_up I 3 4 (1 : Int32))) (fr' := fun _ => (10, [some (.ref 3), some (.ref 41)], [], 0, 0)) (M' := fun I1 => (I1, J, sm_rf t d)) rfl h trivial (fun I1 h => ?_)
      refine sm_W.run (sm_C_mono D) 1 (G := True) (fr' := (11, [some (.ref 3), some (.ref 41)], [.ref 3], 0, 0)) (M' := (I1, J, sm_rf t d)) rfl trivial ?_
      obtain ⟨I2, hc, h⟩ := sd_q1_go h
      refine sm_W.cal (sm_C_mono D) (y := 29) (as := [.ref 3]) (fr' := (12, [some (.ref 3), some (.ref 41)], [], 0, 0)) rfl (T_Reader_step (by omega) hc ?_)
      show sm_W sm_sh X (sm_C sm_sh X sm_P D) me_40 Q (12, [some (.ref 3), some (.ref 41)], [], 0, 0) (I2, J, sm_rf t d)
      refine sm_W.run (sm_C_mono D) 3 (G := True) (fr' := (15, [some (.ref 3), some (.ref 41)], [.int (9 : Int32), .int (1 : Int32), .ref 3], 0, 0)) (M' := (I2, J, sm_rf t d)) rfl trivial ?_
      obtain ⟨r3, I4, hc, h⟩ := sd_q2_go h
      refine sm_W.cal (sm_C_mono D) (y := 36) (as := [.ref 3, .int (1 : Int32), .int (9 : Int32)]) (fr' := (16, [some (.ref 3), some (.ref 41)], [], 0, 0)) rfl (T_Reader_readNumber (by omega) hc ?_)
      show sm_W sm_sh X (sm_C sm_sh X sm_P D) me_40 Q (16, [some (.ref 3), some (.ref 41)], [.int r3], 0, 0) (I4, J, sm_rf t d)
      refine sm_W.run (sm_C_mono D) 1 (G := True) (fr' := (if decide (¬ r3 = 0) = true then 19 else 17, [some (.ref 3), some (.ref 41)], [], 0, 0)) (M' := (I4, J, sm_rf t d)) rfl trivial (sm_W.iteD h (fun hc h => ?_) (fun hc h => ?_))
      · refine sm_W.runL (sm_C_mono D) 4 (G := True) (e := (sd_up I4 41 2 (I4 3 3))) (fr' := fun _ => (23, [some (.ref 3), some (.ref 41)], [], 0, 0)) (M' := fun I5 => (I5, J, sm_rf t d)) rfl h trivial (fun I5 h => ?_)
        refine sm_W.run (sm_C_mono D) 1 (G := True) (fr' := (24, [some (.ref 3), some (.ref 41)], [.int (1 : Int32)], 0, 0)) (M' := (I5, J, sm_rf t d)) rfl trivial ?_
        cases h
        exact sm_W.ret (sm_C_mono D) rfl hQ
      · refine sm_W.run (sm_C_mono D) 1 (G := True) (fr' := (18, [some (.ref 3), some (.ref 41)], [.int (0 : Int32)], 0, 0)) (M' := (I4, J, sm_rf t d)) rfl trivial ?_
        cases h
        exact sm_W.ret (sm_C_mono D) rfl hQ
    · refine sm_W.run (sm_C_mono D) 2 (G := True) (fr' := (5, [some (.ref 3), some (.ref 41)], [.int (5 : Int32), .ref 3], 0, 0)) (M' := (I, J, sm_rf t d)) rfl trivial ?_
      obtain ⟨r6, I7, hc, h⟩ := sd_q2_go h
      refine sm_W.cal (sm_C_mono D) (y := 28) (as := [.ref 3, .int (5 : Int32)]) (fr' := (6, [some (.ref 3), some (.ref 41)], [], 0, 0)) rfl (T_Reader_fail (by omega) hc ?_)
      show sm_W sm_sh X (sm_C sm_sh X sm_P D) me_40 Q (6, [some (.ref 3), some (.ref 41)], [.int r6], 0, 0) (I7, J, sm_rf t d)
      cases h
      exact sm_W.ret (sm_C_mono D) rfl hQ
theorem T_Reader_readEvery {X : Nat × (Nat → Int32)} {t d D : Nat} {Q : sm_Q} {I : sm_MI} {J : sm_MJ} {p1 : Nat} {rz : Int32} {Iz : sm_MI}
    (hD : 4 ≤ D) (hp : (p1 = 21) ∨ (p1 = 41)) (h : F_Reader_readEvery p1 I = some (rz, Iz)) (hQ : Q (.inl (some (.int rz))) (Iz, J, sm_rf t d)) : sm_C sm_sh X sm_P D 40 [.ref 3, .ref p1] (I, J, sm_rf t d) Q := by
  cases D with
  | zero => omega
  | succ D => exact sm_C.of (me := me_40) (L := [some (.ref 3), some (.ref p1)]) rfl rfl rfl (sm_W.forget (L' := [some (.ref 3), some (.ref p1)]) ⟨rfl, ⟨rfl, trivial⟩⟩ (G_Reader_readEvery (by omega) hp h hQ))
-- 50 Rules_opens
noncomputable def F_Rules_opens (p0 : Nat) (x1 : Int32) (I : sm_MI) : Option (sm_MI) :=
  if x1 < 0 then
    some (I)
  else
    if (4 : Int32) ≤ x1 then
      some (I)
    else
      sd_gu (sm_in x1 4 = true) <|
      sd_lt (sd_up I (p0 + 2) (Int32.toNatClampNeg x1) (I p0 1)) fun I2 =>
      some (I2)
theorem G_Rules_opens {X : Nat × (Nat → Int32)} {t d D : Nat} {Q : sm_Q} {I : sm_MI} {J : sm_MJ} {p0 : Nat} {x1 : Int32} {Iz : sm_MI}
    (hD : 0 ≤ D) (hp : (p0 = 35) ∨ (p0 = 55)) (h : F_Rules_opens p0 x1 I = some (Iz)) (hQ : Q (.inl none) (Iz, J, sm_rf t d))  : sm_W sm_sh X (sm_C sm_sh X sm_P D) me_50 Q (0, [some (.ref p0), some (.int x1)], [], 0, 0) (I, J, sm_rf t d) := by
  unfold F_Rules_opens at h
  rcases hp with rfl | rfl
  · skip
    refine sm_W.run (sm_C_mono D) 2 (G := True) (fr' := (if decide (x1 < 0) = true then 11 else 2, [some (.ref 35), some (.int x1)], [], 0, 0)) (M' := (I, J, sm_rf t d)) rfl trivial (sm_W.iteD h (fun hc h => ?_) (fun hc h => ?_))
    · cases h
      exact sm_W.ret (sm_C_mono D) rfl hQ
    · refine sm_W.run (sm_C_mono D) 3 (G := True) (fr' := (if decide ((4 : Int32) ≤ x1) = true then 11 else 5, [some (.ref 35), some (.int x1)], [], 0, 0)) (M' := (I, J, sm_rf t d)) rfl trivial (sm_W.iteD h (fun hc h => ?_) (fun hc h => ?_))
      · cases h
        exact sm_W.ret (sm_C_mono D) rfl hQ
      · obtain ⟨g1, h⟩ := sd_gu_go h
        refine sm_W.runL (sm_C_mono D) 6 (G := sm_in x1 4 = true ∧ True) (e := (sd_up I (35 + 2) (Int32.toNatClampNeg x1) (I 35 1))) (fr' := fun _ => (11, [some (.ref 35), some (.int x1)], [], 0, 0)) (M' := fun I2 => (I2, J, sm_rf t d)) rfl h ⟨g1, trivial⟩ (fun I2 h => ?_)
        cases h
        exact sm_W.ret (sm_C_mono D) rfl hQ
  · skip
    refine sm_W.run (sm_C_mono D) 2 (G := True) (fr' := (if decide (x1 < 0) = true then 11 else 2, [some (.ref 55), some (.int x1)], [], 0, 0)) (M' := (I, J, sm_rf t d)) rfl trivial (sm_W.iteD h (fun hc h => ?_) (fun hc h => ?_))
    · cases h
      exact sm_W.ret (sm_C_mono D) rfl hQ
    · refine sm_W.run (sm_C_mono D) 3 (G := True) (fr' := (if decide ((4 : Int32) ≤ x1) = true then 11 else 5, [some (.ref 55), some (.int x1)], [], 0, 0)) (M' := (I, J, sm_rf t d)) rfl trivial (sm_W.iteD h (fun hc h => ?_) (fun hc h => ?_))
      · cases h
        exact sm_W.ret (sm_C_mono D) rfl hQ
      · obtain ⟨g1, h⟩ := sd_gu_go h
        refine sm_W.runL (sm_C_mono D) 6 (G := sm_in x1 4 = true ∧ True) (e := (sd_up I (55 + 2) (Int32.toNatClampNeg x1) (I 55 1))) (fr' := fun _ => (11, [some (.ref 55), some (.int x1)], [], 0, 0)) (M' := fun I2 => (I2, J, sm_rf t d)) rfl h ⟨g1, trivial⟩ (fun I2 h => ?_)
        cases h
        exact sm_W.ret (sm_C_mono D) rfl hQ
theorem T_Rules_opens {X : Nat × (Nat → Int32)} {t d D : Nat} {Q : sm_Q} {I : sm_MI} {J : sm_MJ} {p0 : Nat} {x1 : Int32} {Iz : sm_MI}
    (hD : 1 ≤ D) (hp : (p0 = 35) ∨ (p0 = 55)) (h : F_Rules_opens p0 x1 I = some (Iz)) (hQ : Q (.inl none) (Iz, J, sm_rf t d)) : sm_C sm_sh X sm_P D 50 [.ref p0, .int x1] (I, J, sm_rf t d) Q := by
  cases D with
  | zero => omega
  | succ D => exact sm_C.of (me := me_50) (L := [some (.ref p0), some (.int x1)]) rfl rfl rfl (sm_W.forget (L' := [some (.ref p0), some (.int x1)]) ⟨rfl, ⟨rfl, trivial⟩⟩ (G_Rules_opens (by omega) hp h hQ))
-- 51 Rules_close
noncomputable def F_Rules_close (p0 : Nat) (x1 : Int32) (I : sm_MI) : Option (sm_MI) :=
  if x1 < 0 then
    some (I)
  else
    if (4 : Int32) ≤ x1 then
      some (I)
    else
      sd_gu (sm_in x1 4 = true) <|
      sd_lt (sd_up I (p0 + 3) (Int32.toNatClampNeg x1) (I p0 1)) fun I2 =>
      some (I2)
theorem G_Rules_close {X : Nat × (Nat → Int32)} {t d D : Nat} {Q : sm_Q} {I : sm_MI} {J : sm_MJ} {p0 : Nat} {x1 : Int32} {Iz : sm_MI}
    (hD : 0 ≤ D) (hp : (p0 = 35) ∨ (p0 = 55)) (h : F_Rules_close p0 x1 I = some (Iz)) (hQ : Q (.inl none) (Iz, J, sm_rf t d))  : sm_W sm_sh X (sm_C sm_sh X sm_P D) me_51 Q (0, [some (.ref p0), some (.int x1)], [], 0, 0) (I, J, sm_rf t d) := by
  unfold F_Rules_close at h
  rcases hp with rfl | rfl
  · skip
    refine sm_W.run (sm_C_mono D) 2 (G := True) (fr' := (if decide (x1 < 0) = true then 11 else 2, [some (.ref 35), some (.int x1)], [], 0, 0)) (M' := (I, J, sm_rf t d)) rfl trivial (sm_W.iteD h (fun hc h => ?_) (fun hc h => ?_))
    · cases h
      exact sm_W.ret (sm_C_mono D) rfl hQ
    · refine sm_W.run (sm_C_mono D) 3 (G := True) (fr' := (if decide ((4 : Int32) ≤ x1) = true then 11 else 5, [some (.ref 35), some (.int x1)], [], 0, 0)) (M' := (I, J, sm_rf t d)) rfl trivial (sm_W.iteD h (fun hc h => ?_) (fun hc h => ?_))
      · cases h
        exact sm_W.ret (sm_C_mono D) rfl hQ
      · obtain ⟨g1, h⟩ := sd_gu_go h
        refine sm_W.runL (sm_C_mono D) 6 (G := sm_in x1 4 = true ∧ True) (e := (sd_up I (35 + 3) (Int32.toNatClampNeg x1) (I 35 1))) (fr' := fun _ => (11, [some (.ref 35), some (.int x1)], [], 0, 0)) (M' := fun I2 => (I2, J, sm_rf t d)) rfl h ⟨g1, trivial⟩ (fun I2 h => ?_)
        cases h
        exact sm_W.ret (sm_C_mono D) rfl hQ
  · skip
    refine sm_W.run (sm_C_mono D) 2 (G := True) (fr' := (if decide (x1 < 0) = true then 11 else 2, [some (.ref 55), some (.int x1)], [], 0, 0)) (M' := (I, J, sm_rf t d)) rfl trivial (sm_W.iteD h (fun hc h => ?_) (fun hc h => ?_))
    · cases h
      exact sm_W.ret (sm_C_mono D) rfl hQ
    · refine sm_W.run (sm_C_mono D) 3 (G := True) (fr' := (if decide ((4 : Int32) ≤ x1) = true then 11 else 5, [some (.ref 55), some (.int x1)], [], 0, 0)) (M' := (I, J, sm_rf t d)) rfl trivial (sm_W.iteD h (fun hc h => ?_) (fun hc h => ?_))
      · cases h
        exact sm_W.ret (sm_C_mono D) rfl hQ
      · obtain ⟨g1, h⟩ := sd_gu_go h
        refine sm_W.runL (sm_C_mono D) 6 (G := sm_in x1 4 = true ∧ True) (e := (sd_up I (55 + 3) (Int32.toNatClampNeg x1) (I 55 1))) (fr' := fun _ => (11, [some (.ref 55), some (.int x1)], [], 0, 0)) (M' := fun I2 => (I2, J, sm_rf t d)) rfl h ⟨g1, trivial⟩ (fun I2 h => ?_)
        cases h
        exact sm_W.ret (sm_C_mono D) rfl hQ
theorem T_Rules_close {X : Nat × (Nat → Int32)} {t d D : Nat} {Q : sm_Q} {I : sm_MI} {J : sm_MJ} {p0 : Nat} {x1 : Int32} {Iz : sm_MI}
    (hD : 1 ≤ D) (hp : (p0 = 35) ∨ (p0 = 55)) (h : F_Rules_close p0 x1 I = some (Iz)) (hQ : Q (.inl none) (Iz, J, sm_rf t d)) : sm_C sm_sh X sm_P D 51 [.ref p0, .int x1] (I, J, sm_rf t d) Q := by
  cases D with
  | zero => omega
  | succ D => exact sm_C.of (me := me_51) (L := [some (.ref p0), some (.int x1)]) rfl rfl rfl (sm_W.forget (L' := [some (.ref p0), some (.int x1)]) ⟨rfl, ⟨rfl, trivial⟩⟩ (G_Rules_close (by omega) hp h hQ))
-- 53 Rules_has
noncomputable def F_Rules_has (p0 : Nat) (x1 : Int32) (I : sm_MI) : Option (Int32) :=
  if x1 < 0 then
    some ((0 : Int32))
  else
    if (4 : Int32) ≤ x1 then
      some ((0 : Int32))
    else
      sd_gu (sm_in x1 4 = true) <|
      sd_gu (sm_in x1 4 = true) <|
      if (I (p0 + 3) (Int32.toNatClampNeg x1)) ≤ (I (p0 + 2) (Int32.toNatClampNeg x1)) then
        some ((0 : Int32))
      else
        some ((1 : Int32))
theorem G_Rules_has {X : Nat × (Nat → Int32)} {t d D : Nat} {Q : sm_Q} {I : sm_MI} {J : sm_MJ} {p0 : Nat} {x1 : Int32} {rz : Int32}
    (hD : 0 ≤ D) (hp : (p0 = 35) ∨ (p0 = 55)) (h : F_Rules_has p0 x1 I = some (rz)) (hQ : Q (.inl (some (.int rz))) (I, J, sm_rf t d))  : sm_W sm_sh X (sm_C sm_sh X sm_P D) me_53 Q (0, [some (.ref p0), some (.int x1)], [], 0, 0) (I, J, sm_rf t d) := by
  unfold F_Rules_has at h
  rcases hp with rfl | rfl
  · skip
    refine sm_W.run (sm_C_mono D) 2 (G := True) (fr' := (if decide (x1 < 0) = true then 16 else 2, [some (.ref 35), some (.int x1)], [], 0, 0)) (M' := (I, J, sm_rf t d)) rfl trivial (sm_W.iteD h (fun hc h => ?_) (fun hc h => ?_))
    · refine sm_W.run (sm_C_mono D) 1 (G := True) (fr' := (17, [some (.ref 35), some (.int x1)], [.int (0 : Int32)], 0, 0)) (M' := (I, J, sm_rf t d)) rfl trivial ?_
      cases h
      exact sm_W.ret (sm_C_mono D) rfl hQ
    · refine sm_W.run (sm_C_mono D) 3 (G := True) (fr' := (if decide ((4 : Int32) ≤ x1) = true then 16 else 5, [some (.ref 35), some (.int x1)], [], 0, 0)) (M' := (I, J, sm_rf t d)) rfl trivial (sm_W.iteD h (fun hc h => ?_) (fun hc h => ?_))
      · refine sm_W.run (sm_C_mono D) 1 (G := True) (fr' := (17, [some (.ref 35), some (.int x1)], [.int (0 : Int32)], 0, 0)) (M' := (I, J, sm_rf t d)) rfl trivial ?_
        cases h
        exact sm_W.ret (sm_C_mono D) rfl hQ
      · obtain ⟨g1, h⟩ := sd_gu_go h
        obtain ⟨g2, h⟩ := sd_gu_go h
        refine sm_W.run (sm_C_mono D) 9 (G := sm_in x1 4 = true ∧ sm_in x1 4 = true ∧ True) (fr' := (if decide ((I (35 + 3) (Int32.toNatClampNeg x1)) ≤ (I (35 + 2) (Int32.toNatClampNeg x1))) = true then 16 else 14, [some (.ref 35), some (.int x1)], [], 0, 0)) (M' := (I, J, sm_rf t d)) rfl ⟨g1, g2, trivial⟩ (sm_W.iteD h (fun hc h => ?_) (fun hc h => ?_))
        · refine sm_W.run (sm_C_mono D) 1 (G := True) (fr' := (17, [some (.ref 35), some (.int x1)], [.int (0 : Int32)], 0, 0)) (M' := (I, J, sm_rf t d)) rfl trivial ?_
          cases h
          exact sm_W.ret (sm_C_mono D) rfl hQ
        · refine sm_W.run (sm_C_mono D) 2 (G := True) (fr' := (17, [some (.ref 35), some (.int x1)], [.int (1 : Int32)], 0, 0)) (M' := (I, J, sm_rf t d)) rfl trivial ?_
          cases h
          exact sm_W.ret (sm_C_mono D) rfl hQ
  · skip
    refine sm_W.run (sm_C_mono D) 2 (G := True) (fr' := (if decide (x1 < 0) = true then 16 else 2, [some (.ref 55), some (.int x1)], [], 0, 0)) (M' := (I, J, sm_rf t d)) rfl trivial (sm_W.iteD h (fun hc h => ?_) (fun hc h => ?_))
    · refine sm_W.run (sm_C_mono D) 1 (G := True) (fr' := (17, [some (.ref 55), some (.int x1)], [.int (0 : Int32)], 0, 0)) (M' := (I, J, sm_rf t d)) rfl trivial ?_
      cases h
      exact sm_W.ret (sm_C_mono D) rfl hQ
    · refine sm_W.run (sm_C_mono D) 3 (G := True) (fr' := (if decide ((4 : Int32) ≤ x1) = true then 16 else 5, [some (.ref 55), some (.int x1)], [], 0, 0)) (M' := (I, J, sm_rf t d)) rfl trivial (sm_W.iteD h (fun hc h => ?_) (fun hc h => ?_))
      · refine sm_W.run (sm_C_mono D) 1 (G := True) (fr' := (17, [some (.ref 55), some (.int x1)], [.int (0 : Int32)], 0, 0)) (M' := (I, J, sm_rf t d)) rfl trivial ?_
        cases h
        exact sm_W.ret (sm_C_mono D) rfl hQ
      · obtain ⟨g1, h⟩ := sd_gu_go h
        obtain ⟨g2, h⟩ := sd_gu_go h
        refine sm_W.run (sm_C_mono D) 9 (G := sm_in x1 4 = true ∧ sm_in x1 4 = true ∧ True) (fr' := (if decide ((I (55 + 3) (Int32.toNatClampNeg x1)) ≤ (I (55 + 2) (Int32.toNatClampNeg x1))) = true then 16 else 14, [some (.ref 55), some (.int x1)], [], 0, 0)) (M' := (I, J, sm_rf t d)) rfl ⟨g1, g2, trivial⟩ (sm_W.iteD h (fun hc h => ?_) (fun hc h => ?_))
        · refine sm_W.run (sm_C_mono D) 1 (G := True) (fr' := (17, [some (.ref 55), some (.int x1)], [.int (0 : Int32)], 0, 0)) (M' := (I, J, sm_rf t d)) rfl trivial ?_
          cases h
          exact sm_W.ret (sm_C_mono D) rfl hQ
        · refine sm_W.run (sm_C_mono D) 2 (G := True) (fr' := (17, [some (.ref 55), some (.int x1)], [.int (1 : Int32)], 0, 0)) (M' := (I, J, sm_rf t d)) rfl trivial ?_
          cases h
          exact sm_W.ret (sm_C_mono D) rfl hQ
theorem T_Rules_has {X : Nat × (Nat → Int32)} {t d D : Nat} {Q : sm_Q} {I : sm_MI} {J : sm_MJ} {p0 : Nat} {x1 : Int32} {rz : Int32}
    (hD : 1 ≤ D) (hp : (p0 = 35) ∨ (p0 = 55)) (h : F_Rules_has p0 x1 I = some (rz)) (hQ : Q (.inl (some (.int rz))) (I, J, sm_rf t d)) : sm_C sm_sh X sm_P D 53 [.ref p0, .int x1] (I, J, sm_rf t d) Q := by
  cases D with
  | zero => omega
  | succ D => exact sm_C.of (me := me_53) (L := [some (.ref p0), some (.int x1)]) rfl rfl rfl (sm_W.forget (L' := [some (.ref p0), some (.int x1)]) ⟨rfl, ⟨rfl, trivial⟩⟩ (G_Rules_has (by omega) hp h hQ))
-- 41 Reader_readRule
noncomputable def F_Reader_readRule_9 (p1 : Nat) (I : sm_MI) : Option (Int32 × sm_MI) :=
  sd_q2 (F_Reader_fail (1 : Int32) I) fun r1 I2 =>
  some ((vp_nar .boolean r1), I2)
noncomputable def F_Reader_readRule_48 (p1 : Nat) (x3 : Int32) (s1 : Int32) (I : sm_MI) : Option (Int32 × sm_MI) :=
  sd_lt (sd_up I 3 6 s1) fun I1 =>
  sd_q1 (F_Reader_step I1) fun I2 =>
  sd_q1 (F_Rules_opens p1 x3 I2) fun I3 =>
  sd_q2 (E_readExpr 8 p1 (0 : Int32) I3) fun r4 I5 =>
  sd_q1 (F_Rules_close p1 x3 I5) fun I6 =>
  some ((vp_nar .boolean r4), I6)
noncomputable def F_Reader_readRule_41 (p1 : Nat) (x3 : Int32) (x4 : Int32) (s1 : Int32) (I : sm_MI) : Option (Int32 × sm_MI) :=
  sd_lt (sd_up I 3 5 s1) fun I1 =>
  if x4 = 0 then
    F_Reader_readRule_48 p1 x3 (4 : Int32) I1
  else
    F_Reader_readRule_48 p1 x3 (6 : Int32) I1
noncomputable def F_Reader_readRule_34 (p1 : Nat) (x3 : Int32) (s0 : Int32) (I : sm_MI) : Option (Int32 × sm_MI) :=
  if s0 = 0 then
    F_Reader_readRule_41 p1 x3 s0 (20 : Int32) I
  else
    F_Reader_readRule_41 p1 x3 s0 (14 : Int32) I
noncomputable def F_Reader_readRule (p1 : Nat) (x2 : Int32) (I : sm_MI) : Option (Int32 × sm_MI) :=
  sd_q1 (F_Reader_step I) fun I1 =>
  if (I1 3 2) < 0 then
    F_Reader_readRule_9 p1 I1
  else
    if (I1 3 2) ≤ (1 : Int32) then
      sd_lt ((x2 + (I1 3 2)) - (0 : Int32)) fun a2 =>
      sd_q1 (F_Rules_has p1 a2 I1) fun r3 =>
      if r3 = 0 then
        if (2 : Int32) ≤ x2 then
          F_Reader_readRule_34 p1 a2 (0 : Int32) I1
        else
          F_Reader_readRule_34 p1 a2 (1 : Int32) I1
      else
        sd_q2 (F_Reader_fail (5 : Int32) I1) fun r4 I5 =>
        some ((vp_nar .boolean r4), I5)
    else
      F_Reader_readRule_9 p1 I1
theorem G_Reader_readRule_9 {X : Nat × (Nat → Int32)} {t d D : Nat} {Q : sm_Q} {I : sm_MI} {J : sm_MJ} {p1 : Nat} {rz : Int32} {Iz : sm_MI}
    (hD : 66 ≤ D) (hp : (p1 = 35) ∨ (p1 = 55)) (h : F_Reader_readRule_9 p1 I = some (rz, Iz)) (hQ : Q (.inl (some (.int rz))) (Iz, J, sm_rf t d))  : sm_W sm_sh X (sm_C sm_sh X sm_P D) me_41 Q (9, [some (.ref 3), none, none, none, none, none], [], 0, 0) (I, J, sm_rf t d) := by
  unfold F_Reader_readRule_9 at h
  rcases hp with rfl | rfl
  · skip
    refine sm_W.run (sm_C_mono D) 2 (G := True) (fr' := (11, [some (.ref 3), none, none, none, none, none], [.int (1 : Int32), .ref 3], 0, 0)) (M' := (I, J, sm_rf t d)) rfl trivial ?_
    obtain ⟨r1, I2, hc, h⟩ := sd_q2_go h
    refine sm_W.cal (sm_C_mono D) (y := 28) (as := [.ref 3, .int (1 : Int32)]) (fr' := (12, [some (.ref 3), none, none, none, none, none], [], 0, 0)) rfl (T_Reader_fail (by omega) hc ?_)
    show sm_W sm_sh X (sm_C sm_sh X sm_P D) me_41 Q (12, [some (.ref 3), none, none, none, none, none], [.int r1], 0, 0) (I2, J, sm_rf t d)
    cases h
    exact sm_W.ret (sm_C_mono D) rfl hQ
  · skip
    refine sm_W.run (sm_C_mono D) 2 (G := True) (fr' := (11, [some (.ref 3), none, none, none, none, none], [.int (1 : Int32), .ref 3], 0, 0)) (M' := (I, J, sm_rf t d)) rfl trivial ?_
    obtain ⟨r1, I2, hc, h⟩ := sd_q2_go h
    refine sm_W.cal (sm_C_mono D) (y := 28) (as := [.ref 3, .int (1 : Int32)]) (fr' := (12, [some (.ref 3), none, none, none, none, none], [], 0, 0)) rfl (T_Reader_fail (by omega) hc ?_)
    show sm_W sm_sh X (sm_C sm_sh X sm_P D) me_41 Q (12, [some (.ref 3), none, none, none, none, none], [.int r1], 0, 0) (I2, J, sm_rf t d)
    cases h
    exact sm_W.ret (sm_C_mono D) rfl hQ
theorem G_Reader_readRule_48 {X : Nat × (Nat → Int32)} {t d D : Nat} {Q : sm_Q} {I : sm_MI} {J : sm_MJ} {p1 : Nat} {x3 : Int32} {s1 : Int32} {rz : Int32} {Iz : sm_MI}
    (hD : 66 ≤ D) (hp : (p1 = 35) ∨ (p1 = 55)) (h : F_Reader_readRule_48 p1 x3 s1 I = some (rz, Iz)) (hQ : Q (.inl (some (.int rz))) (Iz, J, sm_rf t d))  : sm_W sm_sh X (sm_C sm_sh X sm_P D) me_41 Q (48, [some (.ref 3), some (.ref p1), none, some (.int x3), none, none], [.int s1, .ref 3], 0, 0) (I, J, sm_rf t d) := by
  unfold F_Reader_readRule_48 at h
  rcases hp with rfl | rfl
  · skip
    refine sm_W.runL (sm_C_mono D) 1 (G := True) (e := (sd_up I 3 6 s1)) (fr' := fun _ => (49, [some (.ref 3), some (.ref 35), none, some (.int x3), none, none], [], 0, 0)) (M' := fun I1 => (I1, J, sm_rf t d)) rfl h trivial (fun I1 h => ?_)
    refine sm_W.run (sm_C_mono D) 1 (G := True) (fr' := (50, [some (.ref 3), some (.ref 35), none, some (.int x3), none, none], [.ref 3], 0, 0)) (M' := (I1, J, sm_rf t d)) rfl trivial ?_
    obtain ⟨I2, hc, h⟩ := sd_q1_go h
    refine sm_W.cal (sm_C_mono D) (y := 29) (as := [.ref 3]) (fr' := (51, [some (.ref 3), some (.ref 35), none, some (.int x3), none, none], [], 0, 0)) rfl (T_Reader_step (by omega) hc ?_)
    show sm_W sm_sh X (sm_C sm_sh X sm_P D) me_41 Q (51, [some (.ref 3), some (.ref 35), none, some (.int x3), none, none], [], 0, 0) (I2, J, sm_rf t d)
    refine sm_W.run (sm_C_mono D) 2 (G := True) (fr' := (53, [some (.ref 3), some (.ref 35), none, some (.int x3), none, none], [.int x3, .ref 35], 0, 0)) (M' := (I2, J, sm_rf t d)) rfl trivial ?_
    obtain ⟨I3, hc, h⟩ := sd_q1_go h
    refine sm_W.cal (sm_C_mono D) (y := 50) (as := [.ref 35, .int x3]) (fr' := (54, [some (.ref 3), some (.ref 35), none, some (.int x3), none, none], [], 0, 0)) rfl (T_Rules_opens (by omega) (by decide) hc ?_)
    show sm_W sm_sh X (sm_C sm_sh X sm_P D) me_41 Q (54, [some (.ref 3), some (.ref 35), none, some (.int x3), none, none], [], 0, 0) (I3, J, sm_rf t d)
    refine sm_W.run (sm_C_mono D) 3 (G := True) (fr' := (57, [some (.ref 3), some (.ref 35), none, some (.int x3), none, none], [.int (0 : Int32), .ref 35, .ref 3], 0, 0)) (M' := (I3, J, sm_rf t d)) rfl trivial ?_
    obtain ⟨r4, I5, hc, h⟩ := sd_q2_go h
    refine sm_W.cal (sm_C_mono D) (y := 42) (as := [.ref 3, .ref 35, .int (0 : Int32)]) (fr' := (58, [some (.ref 3), some (.ref 35), none, some (.int x3), none, none], [], 0, 0)) rfl (TE_readExpr 8 (by omega) (by decide) hc ?_)
    show sm_W sm_sh X (sm_C sm_sh X sm_P D) me_41 Q (58, [some (.ref 3), some (.ref 35), none, some (.int x3), none, none], [.int r4], 0, 0) (I5, J, sm_rf t d)
    refine sm_W.run (sm_C_mono D) 3 (G := True) (fr' := (61, [some (.ref 3), some (.ref 35), none, some (.int x3), none, some (.int r4)], [.int x3, .ref 35], 0, 0)) (M' := (I5, J, sm_rf t d)) rfl trivial ?_
    obtain ⟨I6, hc, h⟩ := sd_q1_go h
    refine sm_W.cal (sm_C_mono D) (y := 51) (as := [.ref 35, .int x3]) (fr' := (62, [some (.ref 3), some (.ref 35), none, some (.int x3), none, some (.int r4)], [], 0, 0)) rfl (T_Rules_close (by omega) (by decide) hc ?_)
    show sm_W sm_sh X (sm_C sm_sh X sm_P D) me_41 Q (62, [some (.ref 3), some (.ref 35), none, some (.int x3), none, some (.int r4)], [], 0, 0) (I6, J, sm_rf t d)
    refine sm_W.run (sm_C_mono D) 1 (G := True) (fr' := (63, [some (.ref 3), some (.ref 35), none, some (.int x3), none, some (.int r4)], [.int r4], 0, 0)) (M' := (I6, J, sm_rf t d)) rfl trivial ?_
    cases h
    exact sm_W.ret (sm_C_mono D) rfl hQ
  · skip
    refine sm_W.runL (sm_C_mono D) 1 (G := True) (e := (sd_up I 3 6 s1)) (fr' := fun _ => (49, [some (.ref 3), some (.ref 55), none, some (.int x3), none, none], [], 0, 0)) (M' := fun I1 => (I1, J, sm_rf t d)) rfl h trivial (fun I1 h => ?_)
    refine sm_W.run (sm_C_mono D) 1 (G := True) (fr' := (50, [some (.ref 3), some (.ref 55), none, some (.int x3), none, none], [.ref 3], 0, 0)) (M' := (I1, J, sm_rf t d)) rfl trivial ?_
    obtain ⟨I2, hc, h⟩ := sd_q1_go h
    refine sm_W.cal (sm_C_mono D) (y := 29) (as := [.ref 3]) (fr' := (51, [some (.ref 3), some (.ref 55), none, some (.int x3), none, none], [], 0, 0)) rfl (T_Reader_step (by omega) hc ?_)
    show sm_W sm_sh X (sm_C sm_sh X sm_P D) me_41 Q (51, [some (.ref 3), some (.ref 55), none, some (.int x3), none, none], [], 0, 0) (I2, J, sm_rf t d)
    refine sm_W.run (sm_C_mono D) 2 (G := True) (fr' := (53, [some (.ref 3), some (.ref 55), none, some (.int x3), none, none], [.int x3, .ref 55], 0, 0)) (M' := (I2, J, sm_rf t d)) rfl trivial ?_
    obtain ⟨I3, hc, h⟩ := sd_q1_go h
    refine sm_W.cal (sm_C_mono D) (y := 50) (as := [.ref 55, .int x3]) (fr' := (54, [some (.ref 3), some (.ref 55), none, some (.int x3), none, none], [], 0, 0)) rfl (T_Rules_opens (by omega) (by decide) hc ?_)
    show sm_W sm_sh X (sm_C sm_sh X sm_P D) me_41 Q (54, [some (.ref 3), some (.ref 55), none, some (.int x3), none, none], [], 0, 0) (I3, J, sm_rf t d)
    refine sm_W.run (sm_C_mono D) 3 (G := True) (fr' := (57, [some (.ref 3), some (.ref 55), none, some (.int x3), none, none], [.int (0 : Int32), .ref 55, .ref 3], 0, 0)) (M' := (I3, J, sm_rf t d)) rfl trivial ?_
    obtain ⟨r4, I5, hc, h⟩ := sd_q2_go h
    refine sm_W.cal (sm_C_mono D) (y := 42) (as := [.ref 3, .ref 55, .int (0 : Int32)]) (fr' := (58, [some (.ref 3), some (.ref 55), none, some (.int x3), none, none], [], 0, 0)) rfl (TE_readExpr 8 (by omega) (by decide) hc ?_)
    show sm_W sm_sh X (sm_C sm_sh X sm_P D) me_41 Q (58, [some (.ref 3), some (.ref 55), none, some (.int x3), none, none], [.int r4], 0, 0) (I5, J, sm_rf t d)
    refine sm_W.run (sm_C_mono D) 3 (G := True) (fr' := (61, [some (.ref 3), some (.ref 55), none, some (.int x3), none, some (.int r4)], [.int x3, .ref 55], 0, 0)) (M' := (I5, J, sm_rf t d)) rfl trivial ?_
    obtain ⟨I6, hc, h⟩ := sd_q1_go h
    refine sm_W.cal (sm_C_mono D) (y := 51) (as := [.ref 55, .int x3]) (fr' := (62, [some (.ref 3), some (.ref 55), none, some (.int x3), none, some (.int r4)], [], 0, 0)) rfl (T_Rules_close (by omega) (by decide) hc ?_)
    show sm_W sm_sh X (sm_C sm_sh X sm_P D) me_41 Q (62, [some (.ref 3), some (.ref 55), none, some (.int x3), none, some (.int r4)], [], 0, 0) (I6, J, sm_rf t d)
    refine sm_W.run (sm_C_mono D) 1 (G := True) (fr' := (63, [some (.ref 3), some (.ref 55), none, some (.int x3), none, some (.int r4)], [.int r4], 0, 0)) (M' := (I6, J, sm_rf t d)) rfl trivial ?_
    cases h
    exact sm_W.ret (sm_C_mono D) rfl hQ
theorem G_Reader_readRule_41 {X : Nat × (Nat → Int32)} {t d D : Nat} {Q : sm_Q} {I : sm_MI} {J : sm_MJ} {p1 : Nat} {x3 : Int32} {x4 : Int32} {s1 : Int32} {rz : Int32} {Iz : sm_MI}
    (hD : 66 ≤ D) (hp : (p1 = 35) ∨ (p1 = 55)) (h : F_Reader_readRule_41 p1 x3 x4 s1 I = some (rz, Iz)) (hQ : Q (.inl (some (.int rz))) (Iz, J, sm_rf t d))  : sm_W sm_sh X (sm_C sm_sh X sm_P D) me_41 Q (41, [some (.ref 3), some (.ref p1), none, some (.int x3), some (.int x4), none], [.int s1, .ref 3], 0, 0) (I, J, sm_rf t d) := by
  unfold F_Reader_readRule_41 at h
  rcases hp with rfl | rfl
  · skip
    refine sm_W.runL (sm_C_mono D) 1 (G := True) (e := (sd_up I 3 5 s1)) (fr' := fun _ => (42, [some (.ref 3), some (.ref 35), none, some (.int x3), some (.int x4), none], [], 0, 0)) (M' := fun I1 => (I1, J, sm_rf t d)) rfl h trivial (fun I1 h => ?_)
    refine sm_W.run (sm_C_mono D) 3 (G := True) (fr' := (if decide (x4 = 0) = true then 47 else 45, [some (.ref 3), some (.ref 35), none, some (.int x3), some (.int x4), none], [.ref 3], 0, 0)) (M' := (I1, J, sm_rf t d)) rfl trivial (sm_W.iteD h (fun hc h => ?_) (fun hc h => ?_))
    · refine sm_W.run (sm_C_mono D) 1 (G := True) (fr' := (48, [some (.ref 3), some (.ref 35), none, some (.int x3), some (.int x4), none], [.int (4 : Int32), .ref 3], 0, 0)) (M' := (I1, J, sm_rf t d)) rfl trivial ?_
      exact sm_W.forget (L' := [some (.ref 3), some (.ref 35), none, some (.int x3), none, none]) ⟨rfl, ⟨rfl, ⟨rfl, trivial⟩⟩⟩ (G_Reader_readRule_48 hD (by decide) h hQ)
    · refine sm_W.run (sm_C_mono D) 2 (G := True) (fr' := (48, [some (.ref 3), some (.ref 35), none, some (.int x3), some (.int x4), none], [.int (6 : Int32), .ref 3], 0, 0)) (M' := (I1, J, sm_rf t d)) rfl trivial ?_
      exact sm_W.forget (L' := [some (.ref 3), some (.ref 35), none, some (.int x3), none, none]) ⟨rfl, ⟨rfl, ⟨rfl, trivial⟩⟩⟩ (G_Reader_readRule_48 hD (by decide) h hQ)
  · skip
    refine sm_W.runL (sm_C_mono D) 1 (G := True) (e := (sd_up I 3 5 s1)) (fr' := fun _ => (42, [some (.ref 3), some (.ref 55), none, some (.int x3), some (.int x4), none], [], 0, 0)) (M' := fun I1 => (I1, J, sm_rf t d)) rfl h trivial (fun I1 h => ?_)
    refine sm_W.run (sm_C_mono D) 3 (G := True) (fr' := (if decide (x4 = 0) = true then 47 else 45, [some (.ref 3), some (.ref 55), none, some (.int x3), some (.int x4), none], [.ref 3], 0, 0)) (M' := (I1, J, sm_rf t d)) rfl trivial (sm_W.iteD h (fun hc h => ?_) (fun hc h => ?_))
    · refine sm_W.run (sm_C_mono D) 1 (G := True) (fr' := (48, [some (.ref 3), some (.ref 55), none, some (.int x3), some (.int x4), none], [.int (4 : Int32), .ref 3], 0, 0)) (M' := (I1, J, sm_rf t d)) rfl trivial ?_
      exact sm_W.forget (L' := [some (.ref 3), some (.ref 55), none, some (.int x3), none, none]) ⟨rfl, ⟨rfl, ⟨rfl, trivial⟩⟩⟩ (G_Reader_readRule_48 hD (by decide) h hQ)
    · refine sm_W.run (sm_C_mono D) 2 (G := True) (fr' := (48, [some (.ref 3), some (.ref 55), none, some (.int x3), some (.int x4), none], [.int (6 : Int32), .ref 3], 0, 0)) (M' := (I1, J, sm_rf t d)) rfl trivial ?_
      exact sm_W.forget (L' := [some (.ref 3), some (.ref 55), none, some (.int x3), none, none]) ⟨rfl, ⟨rfl, ⟨rfl, trivial⟩⟩⟩ (G_Reader_readRule_48 hD (by decide) h hQ)
theorem G_Reader_readRule_34 {X : Nat × (Nat → Int32)} {t d D : Nat} {Q : sm_Q} {I : sm_MI} {J : sm_MJ} {p1 : Nat} {x3 : Int32} {s0 : Int32} {rz : Int32} {Iz : sm_MI}
    (hD : 66 ≤ D) (hp : (p1 = 35) ∨ (p1 = 55)) (h : F_Reader_readRule_34 p1 x3 s0 I = some (rz, Iz)) (hQ : Q (.inl (some (.int rz))) (Iz, J, sm_rf t d))  : sm_W sm_sh X (sm_C sm_sh X sm_P D) me_41 Q (34, [some (.ref 3), some (.ref p1), none, some (.int x3), none, none], [.int s0], 0, 0) (I, J, sm_rf t d) := by
  unfold F_Reader_readRule_34 at h
  rcases hp with rfl | rfl
  · skip
    refine sm_W.run (sm_C_mono D) 4 (G := True) (fr' := (if decide (s0 = 0) = true then 40 else 38, [some (.ref 3), some (.ref 35), none, some (.int x3), some (.int s0), none], [.ref 3], 0, 0)) (M' := (I, J, sm_rf t d)) rfl trivial (sm_W.iteD h (fun hc h => ?_) (fun hc h => ?_))
    · refine sm_W.run (sm_C_mono D) 1 (G := True) (fr' := (41, [some (.ref 3), some (.ref 35), none, some (.int x3), some (.int s0), none], [.int (20 : Int32), .ref 3], 0, 0)) (M' := (I, J, sm_rf t d)) rfl trivial ?_
      exact (G_Reader_readRule_41 hD (by decide) h hQ)
    · refine sm_W.run (sm_C_mono D) 2 (G := True) (fr' := (41, [some (.ref 3), some (.ref 35), none, some (.int x3), some (.int s0), none], [.int (14 : Int32), .ref 3], 0, 0)) (M' := (I, J, sm_rf t d)) rfl trivial ?_
      exact (G_Reader_readRule_41 hD (by decide) h hQ)
  · skip
    refine sm_W.run (sm_C_mono D) 4 (G := True) (fr' := (if decide (s0 = 0) = true then 40 else 38, [some (.ref 3), some (.ref 55), none, some (.int x3), some (.int s0), none], [.ref 3], 0, 0)) (M' := (I, J, sm_rf t d)) rfl trivial (sm_W.iteD h (fun hc h => ?_) (fun hc h => ?_))
    · refine sm_W.run (sm_C_mono D) 1 (G := True) (fr' := (41, [some (.ref 3), some (.ref 55), none, some (.int x3), some (.int s0), none], [.int (20 : Int32), .ref 3], 0, 0)) (M' := (I, J, sm_rf t d)) rfl trivial ?_
      exact (G_Reader_readRule_41 hD (by decide) h hQ)
    · refine sm_W.run (sm_C_mono D) 2 (G := True) (fr' := (41, [some (.ref 3), some (.ref 55), none, some (.int x3), some (.int s0), none], [.int (14 : Int32), .ref 3], 0, 0)) (M' := (I, J, sm_rf t d)) rfl trivial ?_
      exact (G_Reader_readRule_41 hD (by decide) h hQ)
theorem G_Reader_readRule {X : Nat × (Nat → Int32)} {t d D : Nat} {Q : sm_Q} {I : sm_MI} {J : sm_MJ} {p1 : Nat} {x2 : Int32} {rz : Int32} {Iz : sm_MI}
    (hD : 66 ≤ D) (hp : (p1 = 35) ∨ (p1 = 55)) (h : F_Reader_readRule p1 x2 I = some (rz, Iz)) (hQ : Q (.inl (some (.int rz))) (Iz, J, sm_rf t d))  : sm_W sm_sh X (sm_C sm_sh X sm_P D) me_41 Q (0, [some (.ref 3), some (.ref p1), some (.int x2), none, none, none], [], 0, 0) (I, J, sm_rf t d) := by
  unfold F_Reader_readRule at h
  rcases hp with rfl | rfl
  · skip
    refine sm_W.run (sm_C_mono D) 1 (G := True) (fr' := (1, [some (.ref 3), some (.ref 35), some (.int x2), none, none, none], [.ref 3], 0, 0)) (M' := (I, J, sm_rf t d)) rfl trivial ?_
    obtain ⟨I1, hc, h⟩ := sd_q1_go h
    refine sm_W.cal (sm_C_mono D) (y := 29) (as := [.ref 3]) (fr' := (2, [some (.ref 3), some (.ref 35), some (.int x2), none, none, none], [], 0, 0)) rfl (T_Reader_step (by omega) hc ?_)
    show sm_W sm_sh X (sm_C sm_sh X sm_P D) me_41 Q (2, [some (.ref 3), some (.ref 35), some (.int x2), none, none, none], [], 0, 0) (I1, J, sm_rf t d)
    refine sm_W.run (sm_C_mono D) 3 (G := True) (fr' := (if decide ((I1 3 2) < 0) = true then 9 else 5, [some (.ref 3), some (.ref 35), some (.int x2), none, none, none], [], 0, 0)) (M' := (I1, J, sm_rf t d)) rfl trivial (sm_W.iteD h (fun hc h => ?_) (fun hc h => ?_))
    · exact sm_W.forget (L' := [some (.ref 3), none, none, none, none, none]) ⟨rfl, trivial⟩ (G_Reader_readRule_9 hD (by decide) h hQ)
    · refine sm_W.run (sm_C_mono D) 4 (G := True) (fr' := (if decide ((I1 3 2) ≤ (1 : Int32)) = true then 13 else 9, [some (.ref 3), some (.ref 35), some (.int x2), none, none, none], [], 0, 0)) (M' := (I1, J, sm_rf t d)) rfl trivial (sm_W.iteD h (fun hc h => ?_) (fun hc h => ?_))
      · refine sm_W.runL (sm_C_mono D) 7 (G := True) (e := ((x2 + (I1 3 2)) - (0 : Int32))) (fr' := fun a2 => (20, [some (.ref 3), some (.ref 35), some (.int x2), some (.int a2), none, none], [], 0, 0)) (M' := fun _ => (I1, J, sm_rf t d)) rfl h trivial (fun a2 h => ?_)
        refine sm_W.run (sm_C_mono D) 2 (G := True) (fr' := (22, [some (.ref 3), some (.ref 35), some (.int x2), some (.int a2), none, none], [.int a2, .ref 35], 0, 0)) (M' := (I1, J, sm_rf t d)) rfl trivial ?_
        obtain ⟨r3, hc, h⟩ := sd_q1_go h
        refine sm_W.cal (sm_C_mono D) (y := 53) (as := [.ref 35, .int a2]) (fr' := (23, [some (.ref 3), some (.ref 35), some (.int x2), some (.int a2), none, none], [], 0, 0)) rfl (T_Rules_has (by omega) (by decide) hc ?_)
        show sm_W sm_sh X (sm_C sm_sh X sm_P D) me_41 Q (23, [some (.ref 3), some (.ref 35), some (.int x2), some (.int a2), none, none], [.int r3], 0, 0) (I1, J, sm_rf t d)
        refine sm_W.run (sm_C_mono D) 1 (G := True) (fr' := (if decide (r3 = 0) = true then 28 else 24, [some (.ref 3), some (.ref 35), some (.int x2), some (.int a2), none, none], [], 0, 0)) (M' := (I1, J, sm_rf t d)) rfl trivial (sm_W.iteD h (fun hc h => ?_) (fun hc h => ?_))
        · refine sm_W.run (sm_C_mono D) 3 (G := True) (fr' := (if decide ((2 : Int32) ≤ x2) = true then 33 else 31, [some (.ref 3), some (.ref 35), some (.int x2), some (.int a2), none, none], [], 0, 0)) (M' := (I1, J, sm_rf t d)) rfl trivial (sm_W.iteD h (fun hc h => ?_) (fun hc h => ?_))
          · refine sm_W.run (sm_C_mono D) 1 (G := True) (fr' := (34, [some (.ref 3), some (.ref 35), some (.int x2), some (.int a2), none, none], [.int (0 : Int32)], 0, 0)) (M' := (I1, J, sm_rf t d)) rfl trivial ?_
            exact sm_W.forget (L' := [some (.ref 3), some (.ref 35), none, some (.int a2), none, none]) ⟨rfl, ⟨rfl, ⟨rfl, trivial⟩⟩⟩ (G_Reader_readRule_34 hD (by decide) h hQ)
          · refine sm_W.run (sm_C_mono D) 2 (G := True) (fr' := (34, [some (.ref 3), some (.ref 35), some (.int x2), some (.int a2), none, none], [.int (1 : Int32)], 0, 0)) (M' := (I1, J, sm_rf t d)) rfl trivial ?_
            exact sm_W.forget (L' := [some (.ref 3), some (.ref 35), none, some (.int a2), none, none]) ⟨rfl, ⟨rfl, ⟨rfl, trivial⟩⟩⟩ (G_Reader_readRule_34 hD (by decide) h hQ)
        · refine sm_W.run (sm_C_mono D) 2 (G := True) (fr' := (26, [some (.ref 3), some (.ref 35), some (.int x2), some (.int a2), none, none], [.int (5 : Int32), .ref 3], 0, 0)) (M' := (I1, J, sm_rf t d)) rfl trivial ?_
          obtain ⟨r4, I5, hc, h⟩ := sd_q2_go h
          refine sm_W.cal (sm_C_mono D) (y := 28) (as := [.ref 3, .int (5 : Int32)]) (fr' := (27, [some (.ref 3), some (.ref 35), some (.int x2), some (.int a2), none, none], [], 0, 0)) rfl (T_Reader_fail (by omega) hc ?_)
          show sm_W sm_sh X (sm_C sm_sh X sm_P D) me_41 Q (27, [some (.ref 3), some (.ref 35), some (.int x2), some (.int a2), none, none], [.int r4], 0, 0) (I5, J, sm_rf t d)
          cases h
          exact sm_W.ret (sm_C_mono D) rfl hQ
      · exact sm_W.forget (L' := [some (.ref 3), none, none, none, none, none]) ⟨rfl, trivial⟩ (G_Reader_readRule_9 hD (by decide) h hQ)
  · skip
    refine sm_W.run (sm_C_mono D) 1 (G := True) (fr' := (1, [some (.ref 3), some (.ref 55), some (.int x2), none, none, none], [.ref 3], 0, 0)) (M' := (I, J, sm_rf t d)) rfl trivial ?_
    obtain ⟨I1, hc, h⟩ := sd_q1_go h
    refine sm_W.cal (sm_C_mono D) (y := 29) (as := [.ref 3]) (fr' := (2, [some (.ref 3), some (.ref 55), some (.int x2), none, none, none], [], 0, 0)) rfl (T_Reader_step (by omega) hc ?_)
    show sm_W sm_sh X (sm_C sm_sh X sm_P D) me_41 Q (2, [some (.ref 3), some (.ref 55), some (.int x2), none, none, none], [], 0, 0) (I1, J, sm_rf t d)
    refine sm_W.run (sm_C_mono D) 3 (G := True) (fr' := (if decide ((I1 3 2) < 0) = true then 9 else 5, [some (.ref 3), some (.ref 55), some (.int x2), none, none, none], [], 0, 0)) (M' := (I1, J, sm_rf t d)) rfl trivial (sm_W.iteD h (fun hc h => ?_) (fun hc h => ?_))
    · exact sm_W.forget (L' := [some (.ref 3), none, none, none, none, none]) ⟨rfl, trivial⟩ (G_Reader_readRule_9 hD (by decide) h hQ)
    · refine sm_W.run (sm_C_mono D) 4 (G := True) (fr' := (if decide ((I1 3 2) ≤ (1 : Int32)) = true then 13 else 9, [some (.ref 3), some (.ref 55), some (.int x2), none, none, none], [], 0, 0)) (M' := (I1, J, sm_rf t d)) rfl trivial (sm_W.iteD h (fun hc h => ?_) (fun hc h => ?_))
      · refine sm_W.runL (sm_C_mono D) 7 (G := True) (e := ((x2 + (I1 3 2)) - (0 : Int32))) (fr' := fun a2 => (20, [some (.ref 3), some (.ref 55), some (.int x2), some (.int a2), none, none], [], 0, 0)) (M' := fun _ => (I1, J, sm_rf t d)) rfl h trivial (fun a2 h => ?_)
        refine sm_W.run (sm_C_mono D) 2 (G := True) (fr' := (22, [some (.ref 3), some (.ref 55), some (.int x2), some (.int a2), none, none], [.int a2, .ref 55], 0, 0)) (M' := (I1, J, sm_rf t d)) rfl trivial ?_
        obtain ⟨r3, hc, h⟩ := sd_q1_go h
        refine sm_W.cal (sm_C_mono D) (y := 53) (as := [.ref 55, .int a2]) (fr' := (23, [some (.ref 3), some (.ref 55), some (.int x2), some (.int a2), none, none], [], 0, 0)) rfl (T_Rules_has (by omega) (by decide) hc ?_)
        show sm_W sm_sh X (sm_C sm_sh X sm_P D) me_41 Q (23, [some (.ref 3), some (.ref 55), some (.int x2), some (.int a2), none, none], [.int r3], 0, 0) (I1, J, sm_rf t d)
        refine sm_W.run (sm_C_mono D) 1 (G := True) (fr' := (if decide (r3 = 0) = true then 28 else 24, [some (.ref 3), some (.ref 55), some (.int x2), some (.int a2), none, none], [], 0, 0)) (M' := (I1, J, sm_rf t d)) rfl trivial (sm_W.iteD h (fun hc h => ?_) (fun hc h => ?_))
        · refine sm_W.run (sm_C_mono D) 3 (G := True) (fr' := (if decide ((2 : Int32) ≤ x2) = true then 33 else 31, [some (.ref 3), some (.ref 55), some (.int x2), some (.int a2), none, none], [], 0, 0)) (M' := (I1, J, sm_rf t d)) rfl trivial (sm_W.iteD h (fun hc h => ?_) (fun hc h => ?_))
          · refine sm_W.run (sm_C_mono D) 1 (G := True) (fr' := (34, [some (.ref 3), some (.ref 55), some (.int x2), some (.int a2), none, none], [.int (0 : Int32)], 0, 0)) (M' := (I1, J, sm_rf t d)) rfl trivial ?_
            exact sm_W.forget (L' := [some (.ref 3), some (.ref 55), none, some (.int a2), none, none]) ⟨rfl, ⟨rfl, ⟨rfl, trivial⟩⟩⟩ (G_Reader_readRule_34 hD (by decide) h hQ)
          · refine sm_W.run (sm_C_mono D) 2 (G := True) (fr' := (34, [some (.ref 3), some (.ref 55), some (.int x2), some (.int a2), none, none], [.int (1 : Int32)], 0, 0)) (M' := (I1, J, sm_rf t d)) rfl trivial ?_
            exact sm_W.forget (L' := [some (.ref 3), some (.ref 55), none, some (.int a2), none, none]) ⟨rfl, ⟨rfl, ⟨rfl, trivial⟩⟩⟩ (G_Reader_readRule_34 hD (by decide) h hQ)
        · refine sm_W.run (sm_C_mono D) 2 (G := True) (fr' := (26, [some (.ref 3), some (.ref 55), some (.int x2), some (.int a2), none, none], [.int (5 : Int32), .ref 3], 0, 0)) (M' := (I1, J, sm_rf t d)) rfl trivial ?_
          obtain ⟨r4, I5, hc, h⟩ := sd_q2_go h
          refine sm_W.cal (sm_C_mono D) (y := 28) (as := [.ref 3, .int (5 : Int32)]) (fr' := (27, [some (.ref 3), some (.ref 55), some (.int x2), some (.int a2), none, none], [], 0, 0)) rfl (T_Reader_fail (by omega) hc ?_)
          show sm_W sm_sh X (sm_C sm_sh X sm_P D) me_41 Q (27, [some (.ref 3), some (.ref 55), some (.int x2), some (.int a2), none, none], [.int r4], 0, 0) (I5, J, sm_rf t d)
          cases h
          exact sm_W.ret (sm_C_mono D) rfl hQ
      · exact sm_W.forget (L' := [some (.ref 3), none, none, none, none, none]) ⟨rfl, trivial⟩ (G_Reader_readRule_9 hD (by decide) h hQ)
theorem T_Reader_readRule {X : Nat × (Nat → Int32)} {t d D : Nat} {Q : sm_Q} {I : sm_MI} {J : sm_MJ} {p1 : Nat} {x2 : Int32} {rz : Int32} {Iz : sm_MI}
    (hD : 67 ≤ D) (hp : (p1 = 35) ∨ (p1 = 55)) (h : F_Reader_readRule p1 x2 I = some (rz, Iz)) (hQ : Q (.inl (some (.int rz))) (Iz, J, sm_rf t d)) : sm_C sm_sh X sm_P D 41 [.ref 3, .ref p1, .int x2] (I, J, sm_rf t d) Q := by
  cases D with
  | zero => omega
  | succ D => exact sm_C.of (me := me_41) (L := [some (.ref 3), some (.ref p1), some (.int x2), none, none, none]) rfl rfl rfl (sm_W.forget (L' := [some (.ref 3), some (.ref p1), some (.int x2), none, none, none]) ⟨rfl, ⟨rfl, ⟨rfl, trivial⟩⟩⟩ (G_Reader_readRule (by omega) hp h hQ))
-- 34 Reader_readLine
noncomputable def F_Reader_readLine_19 (p1 : Nat) (I : sm_MI) : Option (Int32 × sm_MI) :=
  sd_q1 (F_Reader_atPart I) fun r1 =>
  if r1 = 0 then
    if (I 3 2) = (7 : Int32) then
      sd_q2 (F_Reader_readPiece p1 I) fun r2 I3 =>
      if r2 = 0 then
        some ((0 : Int32), I3)
      else
        sd_q2 (F_Reader_readSign (59 : Int32) I3) fun r4 I5 =>
        if r4 = 0 then
          some ((0 : Int32), I5)
        else
          some ((1 : Int32), I5)
    else if (I 3 2) = (8 : Int32) then
      sd_q2 (F_Reader_readEvery p1 I) fun r6 I7 =>
      if r6 = 0 then
        some ((0 : Int32), I7)
      else
        sd_q2 (F_Reader_readSign (59 : Int32) I7) fun r8 I9 =>
        if r8 = 0 then
          some ((0 : Int32), I9)
        else
          some ((1 : Int32), I9)
    else if (I 3 2) = (9 : Int32) then
      sd_q2 (F_Reader_readRule (p1 + 14) (0 : Int32) I) fun r10 I11 =>
      if r10 = 0 then
        some ((0 : Int32), I11)
      else
        sd_q2 (F_Reader_readSign (59 : Int32) I11) fun r12 I13 =>
        if r12 = 0 then
          some ((0 : Int32), I13)
        else
          some ((1 : Int32), I13)
    else if (I 3 2) = (10 : Int32) then
      sd_q2 (F_Reader_readRule (p1 + 14) (2 : Int32) I) fun r14 I15 =>
      if r14 = 0 then
        some ((0 : Int32), I15)
      else
        sd_q2 (F_Reader_readSign (59 : Int32) I15) fun r16 I17 =>
        if r16 = 0 then
          some ((0 : Int32), I17)
        else
          some ((1 : Int32), I17)
    else 
      sd_q2 (F_Reader_fail (1 : Int32) I) fun r18 I19 =>
      some ((vp_nar .boolean r18), I19)
  else
    sd_q2 (F_Reader_readRow p1 I) fun r20 I21 =>
    if r20 = 0 then
      some ((0 : Int32), I21)
    else
      sd_q2 (F_Reader_readSign (59 : Int32) I21) fun r22 I23 =>
      if r22 = 0 then
        some ((0 : Int32), I23)
      else
        some ((1 : Int32), I23)
noncomputable def F_Reader_readLine (p1 : Nat) (I : sm_MI) : Option (Int32 × sm_MI) :=
  if (I 3 2) < 0 then
    F_Reader_readLine_19 p1 I
  else
    if (2 : Int32) < (I 3 2) then
      F_Reader_readLine_19 p1 I
    else
      sd_q2 (F_Reader_readSinger p1 I) fun r1 I2 =>
      if r1 = 0 then
        some ((0 : Int32), I2)
      else
        sd_q2 (F_Reader_readSign (59 : Int32) I2) fun r3 I4 =>
        if r3 = 0 then
          some ((0 : Int32), I4)
        else
          some ((1 : Int32), I4)
theorem G_Reader_readLine_19 {X : Nat × (Nat → Int32)} {t d D : Nat} {Q : sm_Q} {I : sm_MI} {J : sm_MJ} {p1 : Nat} {rz : Int32} {Iz : sm_MI}
    (hD : 67 ≤ D) (hp : (p1 = 21) ∨ (p1 = 41)) (h : F_Reader_readLine_19 p1 I = some (rz, Iz)) (hQ : Q (.inl (some (.int rz))) (Iz, J, sm_rf t d))  : sm_W sm_sh X (sm_C sm_sh X sm_P D) me_34 Q (19, [some (.ref 3), some (.ref p1)], [], 0, 0) (I, J, sm_rf t d) := by
  unfold F_Reader_readLine_19 at h
  rcases hp with rfl | rfl
  · skip
    refine sm_W.run (sm_C_mono D) 1 (G := True) (fr' := (20, [some (.ref 3), some (.ref 21)], [.ref 3], 0, 0)) (M' := (I, J, sm_rf t d)) rfl trivial ?_
    obtain ⟨r1, hc, h⟩ := sd_q1_go h
    refine sm_W.cal (sm_C_mono D) (y := 33) (as := [.ref 3]) (fr' := (21, [some (.ref 3), some (.ref 21)], [], 0, 0)) rfl (T_Reader_atPart (by omega) hc ?_)
    show sm_W sm_sh X (sm_C sm_sh X sm_P D) me_34 Q (21, [some (.ref 3), some (.ref 21)], [.int r1], 0, 0) (I, J, sm_rf t d)
    refine sm_W.run (sm_C_mono D) 1 (G := True) (fr' := (if decide (r1 = 0) = true then 34 else 22, [some (.ref 3), some (.ref 21)], [], 0, 0)) (M' := (I, J, sm_rf t d)) rfl trivial (sm_W.iteD h (fun hc h => ?_) (fun hc h => ?_))
    · refine sm_W.run (sm_C_mono D) 3 (G := True) (fr' := (sm_sw (Int32.toInt (I 3 2)) (7) [37, 49, 61, 75] 89, [some (.ref 3), some (.ref 21)], [], 0, 0)) (M' := (I, J, sm_rf t d)) rfl trivial ?_
      rw [sd_sw_eq]
      refine sm_W.swS (c := (7 : Int32)) (by decide) h (fun h => ?_) (fun h => ?_)
      · refine sm_W.run (sm_C_mono D) 2 (G := True) (fr' := (39, [some (.ref 3), some (.ref 21)], [.ref 21, .ref 3], 0, 0)) (M' := (I, J, sm_rf t d)) rfl trivial ?_
        obtain ⟨r2, I3, hc, h⟩ := sd_q2_go h
        refine sm_W.cal (sm_C_mono D) (y := 38) (as := [.ref 3, .ref 21]) (fr' := (40, [some (.ref 3), some (.ref 21)], [], 0, 0)) rfl (T_Reader_readPiece (by omega) (by decide) hc ?_)
        show sm_W sm_sh X (sm_C sm_sh X sm_P D) me_34 Q (40, [some (.ref 3), some (.ref 21)], [.int r2], 0, 0) (I3, J, sm_rf t d)
        refine sm_W.run (sm_C_mono D) 1 (G := True) (fr' := (if decide (r2 = 0) = true then 47 else 41, [some (.ref 3), some (.ref 21)], [], 0, 0)) (M' := (I3, J, sm_rf t d)) rfl trivial (sm_W.iteD h (fun hc h => ?_) (fun hc h => ?_))
        · refine sm_W.run (sm_C_mono D) 1 (G := True) (fr' := (48, [some (.ref 3), some (.ref 21)], [.int (0 : Int32)], 0, 0)) (M' := (I3, J, sm_rf t d)) rfl trivial ?_
          cases h
          exact sm_W.ret (sm_C_mono D) rfl hQ
        · refine sm_W.run (sm_C_mono D) 2 (G := True) (fr' := (43, [some (.ref 3), some (.ref 21)], [.int (59 : Int32), .ref 3], 0, 0)) (M' := (I3, J, sm_rf t d)) rfl trivial ?_
          obtain ⟨r4, I5, hc, h⟩ := sd_q2_go h
          refine sm_W.cal (sm_C_mono D) (y := 35) (as := [.ref 3, .int (59 : Int32)]) (fr' := (44, [some (.ref 3), some (.ref 21)], [], 0, 0)) rfl (T_Reader_readSign (by omega) hc ?_)
          show sm_W sm_sh X (sm_C sm_sh X sm_P D) me_34 Q (44, [some (.ref 3), some (.ref 21)], [.int r4], 0, 0) (I5, J, sm_rf t d)
          refine sm_W.run (sm_C_mono D) 1 (G := True) (fr' := (if decide (r4 = 0) = true then 47 else 45, [some (.ref 3), some (.ref 21)], [], 0, 0)) (M' := (I5, J, sm_rf t d)) rfl trivial (sm_W.iteD h (fun hc h => ?_) (fun hc h => ?_))
          · refine sm_W.run (sm_C_mono D) 1 (G := True) (fr' := (48, [some (.ref 3), some (.ref 21)], [.int (0 : Int32)], 0, 0)) (M' := (I5, J, sm_rf t d)) rfl trivial ?_
            cases h
            exact sm_W.ret (sm_C_mono D) rfl hQ
          · refine sm_W.run (sm_C_mono D) 2 (G := True) (fr' := (48, [some (.ref 3), some (.ref 21)], [.int (1 : Int32)], 0, 0)) (M' := (I5, J, sm_rf t d)) rfl trivial ?_
            cases h
            exact sm_W.ret (sm_C_mono D) rfl hQ
      refine sm_W.swS (c := (8 : Int32)) (by decide) h (fun h => ?_) (fun h => ?_)
      · refine sm_W.run (sm_C_mono D) 2 (G := True) (fr' := (51, [some (.ref 3), some (.ref 21)], [.ref 21, .ref 3], 0, 0)) (M' := (I, J, sm_rf t d)) rfl trivial ?_
        obtain ⟨r6, I7, hc, h⟩ := sd_q2_go h
        refine sm_W.cal (sm_C_mono D) (y := 40) (as := [.ref 3, .ref 21]) (fr' := (52, [some (.ref 3), some (.ref 21)], [], 0, 0)) rfl (T_Reader_readEvery (by omega) (by decide) hc ?_)
        show sm_W sm_sh X (sm_C sm_sh X sm_P D) me_34 Q (52, [some (.ref 3), some (.ref 21)], [.int r6], 0, 0) (I7, J, sm_rf t d)
        refine sm_W.run (sm_C_mono D) 1 (G := True) (fr' := (if decide (r6 = 0) = true then 59 else 53, [some (.ref 3), some (.ref 21)], [], 0, 0)) (M' := (I7, J, sm_rf t d)) rfl trivial (sm_W.iteD h (fun hc h => ?_) (fun hc h => ?_))
        · refine sm_W.run (sm_C_mono D) 1 (G := True) (fr' := (60, [some (.ref 3), some (.ref 21)], [.int (0 : Int32)], 0, 0)) (M' := (I7, J, sm_rf t d)) rfl trivial ?_
          cases h
          exact sm_W.ret (sm_C_mono D) rfl hQ
        · refine sm_W.run (sm_C_mono D) 2 (G := True) (fr' := (55, [some (.ref 3), some (.ref 21)], [.int (59 : Int32), .ref 3], 0, 0)) (M' := (I7, J, sm_rf t d)) rfl trivial ?_
          obtain ⟨r8, I9, hc, h⟩ := sd_q2_go h
          refine sm_W.cal (sm_C_mono D) (y := 35) (as := [.ref 3, .int (59 : Int32)]) (fr' := (56, [some (.ref 3), some (.ref 21)], [], 0, 0)) rfl (T_Reader_readSign (by omega) hc ?_)
          show sm_W sm_sh X (sm_C sm_sh X sm_P D) me_34 Q (56, [some (.ref 3), some (.ref 21)], [.int r8], 0, 0) (I9, J, sm_rf t d)
          refine sm_W.run (sm_C_mono D) 1 (G := True) (fr' := (if decide (r8 = 0) = true then 59 else 57, [some (.ref 3), some (.ref 21)], [], 0, 0)) (M' := (I9, J, sm_rf t d)) rfl trivial (sm_W.iteD h (fun hc h => ?_) (fun hc h => ?_))
          · refine sm_W.run (sm_C_mono D) 1 (G := True) (fr' := (60, [some (.ref 3), some (.ref 21)], [.int (0 : Int32)], 0, 0)) (M' := (I9, J, sm_rf t d)) rfl trivial ?_
            cases h
            exact sm_W.ret (sm_C_mono D) rfl hQ
          · refine sm_W.run (sm_C_mono D) 2 (G := True) (fr' := (60, [some (.ref 3), some (.ref 21)], [.int (1 : Int32)], 0, 0)) (M' := (I9, J, sm_rf t d)) rfl trivial ?_
            cases h
            exact sm_W.ret (sm_C_mono D) rfl hQ
      refine sm_W.swS (c := (9 : Int32)) (by decide) h (fun h => ?_) (fun h => ?_)
      · refine sm_W.run (sm_C_mono D) 4 (G := True) (fr' := (65, [some (.ref 3), some (.ref 21)], [.int (0 : Int32), .ref (21 + 14), .ref 3], 0, 0)) (M' := (I, J, sm_rf t d)) rfl trivial ?_
        obtain ⟨r10, I11, hc, h⟩ := sd_q2_go h
        refine sm_W.cal (sm_C_mono D) (y := 41) (as := [.ref 3, .ref (21 + 14), .int (0 : Int32)]) (fr' := (66, [some (.ref 3), some (.ref 21)], [], 0, 0)) rfl (T_Reader_readRule (by omega) (by decide) hc ?_)
        show sm_W sm_sh X (sm_C sm_sh X sm_P D) me_34 Q (66, [some (.ref 3), some (.ref 21)], [.int r10], 0, 0) (I11, J, sm_rf t d)
        refine sm_W.run (sm_C_mono D) 1 (G := True) (fr' := (if decide (r10 = 0) = true then 73 else 67, [some (.ref 3), some (.ref 21)], [], 0, 0)) (M' := (I11, J, sm_rf t d)) rfl trivial (sm_W.iteD h (fun hc h => ?_) (fun hc h => ?_))
        · refine sm_W.run (sm_C_mono D) 1 (G := True) (fr' := (74, [some (.ref 3), some (.ref 21)], [.int (0 : Int32)], 0, 0)) (M' := (I11, J, sm_rf t d)) rfl trivial ?_
          cases h
          exact sm_W.ret (sm_C_mono D) rfl hQ
        · refine sm_W.run (sm_C_mono D) 2 (G := True) (fr' := (69, [some (.ref 3), some (.ref 21)], [.int (59 : Int32), .ref 3], 0, 0)) (M' := (I11, J, sm_rf t d)) rfl trivial ?_
          obtain ⟨r12, I13, hc, h⟩ := sd_q2_go h
          refine sm_W.cal (sm_C_mono D) (y := 35) (as := [.ref 3, .int (59 : Int32)]) (fr' := (70, [some (.ref 3), some (.ref 21)], [], 0, 0)) rfl (T_Reader_readSign (by omega) hc ?_)
          show sm_W sm_sh X (sm_C sm_sh X sm_P D) me_34 Q (70, [some (.ref 3), some (.ref 21)], [.int r12], 0, 0) (I13, J, sm_rf t d)
          refine sm_W.run (sm_C_mono D) 1 (G := True) (fr' := (if decide (r12 = 0) = true then 73 else 71, [some (.ref 3), some (.ref 21)], [], 0, 0)) (M' := (I13, J, sm_rf t d)) rfl trivial (sm_W.iteD h (fun hc h => ?_) (fun hc h => ?_))
          · refine sm_W.run (sm_C_mono D) 1 (G := True) (fr' := (74, [some (.ref 3), some (.ref 21)], [.int (0 : Int32)], 0, 0)) (M' := (I13, J, sm_rf t d)) rfl trivial ?_
            cases h
            exact sm_W.ret (sm_C_mono D) rfl hQ
          · refine sm_W.run (sm_C_mono D) 2 (G := True) (fr' := (74, [some (.ref 3), some (.ref 21)], [.int (1 : Int32)], 0, 0)) (M' := (I13, J, sm_rf t d)) rfl trivial ?_
            cases h
            exact sm_W.ret (sm_C_mono D) rfl hQ
      refine sm_W.swS (c := (10 : Int32)) (by decide) h (fun h => ?_) (fun h => ?_)
      · refine sm_W.run (sm_C_mono D) 4 (G := True) (fr' := (79, [some (.ref 3), some (.ref 21)], [.int (2 : Int32), .ref (21 + 14), .ref 3], 0, 0)) (M' := (I, J, sm_rf t d)) rfl trivial ?_
        obtain ⟨r14, I15, hc, h⟩ := sd_q2_go h
        refine sm_W.cal (sm_C_mono D) (y := 41) (as := [.ref 3, .ref (21 + 14), .int (2 : Int32)]) (fr' := (80, [some (.ref 3), some (.ref 21)], [], 0, 0)) rfl (T_Reader_readRule (by omega) (by decide) hc ?_)
        show sm_W sm_sh X (sm_C sm_sh X sm_P D) me_34 Q (80, [some (.ref 3), some (.ref 21)], [.int r14], 0, 0) (I15, J, sm_rf t d)
        refine sm_W.run (sm_C_mono D) 1 (G := True) (fr' := (if decide (r14 = 0) = true then 87 else 81, [some (.ref 3), some (.ref 21)], [], 0, 0)) (M' := (I15, J, sm_rf t d)) rfl trivial (sm_W.iteD h (fun hc h => ?_) (fun hc h => ?_))
        · refine sm_W.run (sm_C_mono D) 1 (G := True) (fr' := (88, [some (.ref 3), some (.ref 21)], [.int (0 : Int32)], 0, 0)) (M' := (I15, J, sm_rf t d)) rfl trivial ?_
          cases h
          exact sm_W.ret (sm_C_mono D) rfl hQ
        · refine sm_W.run (sm_C_mono D) 2 (G := True) (fr' := (83, [some (.ref 3), some (.ref 21)], [.int (59 : Int32), .ref 3], 0, 0)) (M' := (I15, J, sm_rf t d)) rfl trivial ?_
          obtain ⟨r16, I17, hc, h⟩ := sd_q2_go h
          refine sm_W.cal (sm_C_mono D) (y := 35) (as := [.ref 3, .int (59 : Int32)]) (fr' := (84, [some (.ref 3), some (.ref 21)], [], 0, 0)) rfl (T_Reader_readSign (by omega) hc ?_)
          show sm_W sm_sh X (sm_C sm_sh X sm_P D) me_34 Q (84, [some (.ref 3), some (.ref 21)], [.int r16], 0, 0) (I17, J, sm_rf t d)
          refine sm_W.run (sm_C_mono D) 1 (G := True) (fr' := (if decide (r16 = 0) = true then 87 else 85, [some (.ref 3), some (.ref 21)], [], 0, 0)) (M' := (I17, J, sm_rf t d)) rfl trivial (sm_W.iteD h (fun hc h => ?_) (fun hc h => ?_))
          · refine sm_W.run (sm_C_mono D) 1 (G := True) (fr' := (88, [some (.ref 3), some (.ref 21)], [.int (0 : Int32)], 0, 0)) (M' := (I17, J, sm_rf t d)) rfl trivial ?_
            cases h
            exact sm_W.ret (sm_C_mono D) rfl hQ
          · refine sm_W.run (sm_C_mono D) 2 (G := True) (fr' := (88, [some (.ref 3), some (.ref 21)], [.int (1 : Int32)], 0, 0)) (M' := (I17, J, sm_rf t d)) rfl trivial ?_
            cases h
            exact sm_W.ret (sm_C_mono D) rfl hQ
      refine sm_W.run (sm_C_mono D) 2 (G := True) (fr' := (91, [some (.ref 3), some (.ref 21)], [.int (1 : Int32), .ref 3], 0, 0)) (M' := (I, J, sm_rf t d)) rfl trivial ?_
      obtain ⟨r18, I19, hc, h⟩ := sd_q2_go h
      refine sm_W.cal (sm_C_mono D) (y := 28) (as := [.ref 3, .int (1 : Int32)]) (fr' := (92, [some (.ref 3), some (.ref 21)], [], 0, 0)) rfl (T_Reader_fail (by omega) hc ?_)
      show sm_W sm_sh X (sm_C sm_sh X sm_P D) me_34 Q (92, [some (.ref 3), some (.ref 21)], [.int r18], 0, 0) (I19, J, sm_rf t d)
      cases h
      exact sm_W.ret (sm_C_mono D) rfl hQ
    · refine sm_W.run (sm_C_mono D) 2 (G := True) (fr' := (24, [some (.ref 3), some (.ref 21)], [.ref 21, .ref 3], 0, 0)) (M' := (I, J, sm_rf t d)) rfl trivial ?_
      obtain ⟨r20, I21, hc, h⟩ := sd_q2_go h
      refine sm_W.cal (sm_C_mono D) (y := 39) (as := [.ref 3, .ref 21]) (fr' := (25, [some (.ref 3), some (.ref 21)], [], 0, 0)) rfl (T_Reader_readRow (by omega) (by decide) hc ?_)
      show sm_W sm_sh X (sm_C sm_sh X sm_P D) me_34 Q (25, [some (.ref 3), some (.ref 21)], [.int r20], 0, 0) (I21, J, sm_rf t d)
      refine sm_W.run (sm_C_mono D) 1 (G := True) (fr' := (if decide (r20 = 0) = true then 32 else 26, [some (.ref 3), some (.ref 21)], [], 0, 0)) (M' := (I21, J, sm_rf t d)) rfl trivial (sm_W.iteD h (fun hc h => ?_) (fun hc h => ?_))
      · refine sm_W.run (sm_C_mono D) 1 (G := True) (fr' := (33, [some (.ref 3), some (.ref 21)], [.int (0 : Int32)], 0, 0)) (M' := (I21, J, sm_rf t d)) rfl trivial ?_
        cases h
        exact sm_W.ret (sm_C_mono D) rfl hQ
      · refine sm_W.run (sm_C_mono D) 2 (G := True) (fr' := (28, [some (.ref 3), some (.ref 21)], [.int (59 : Int32), .ref 3], 0, 0)) (M' := (I21, J, sm_rf t d)) rfl trivial ?_
        obtain ⟨r22, I23, hc, h⟩ := sd_q2_go h
        refine sm_W.cal (sm_C_mono D) (y := 35) (as := [.ref 3, .int (59 : Int32)]) (fr' := (29, [some (.ref 3), some (.ref 21)], [], 0, 0)) rfl (T_Reader_readSign (by omega) hc ?_)
        show sm_W sm_sh X (sm_C sm_sh X sm_P D) me_34 Q (29, [some (.ref 3), some (.ref 21)], [.int r22], 0, 0) (I23, J, sm_rf t d)
        refine sm_W.run (sm_C_mono D) 1 (G := True) (fr' := (if decide (r22 = 0) = true then 32 else 30, [some (.ref 3), some (.ref 21)], [], 0, 0)) (M' := (I23, J, sm_rf t d)) rfl trivial (sm_W.iteD h (fun hc h => ?_) (fun hc h => ?_))
        · refine sm_W.run (sm_C_mono D) 1 (G := True) (fr' := (33, [some (.ref 3), some (.ref 21)], [.int (0 : Int32)], 0, 0)) (M' := (I23, J, sm_rf t d)) rfl trivial ?_
          cases h
          exact sm_W.ret (sm_C_mono D) rfl hQ
        · refine sm_W.run (sm_C_mono D) 2 (G := True) (fr' := (33, [some (.ref 3), some (.ref 21)], [.int (1 : Int32)], 0, 0)) (M' := (I23, J, sm_rf t d)) rfl trivial ?_
          cases h
          exact sm_W.ret (sm_C_mono D) rfl hQ
  · skip
    refine sm_W.run (sm_C_mono D) 1 (G := True) (fr' := (20, [some (.ref 3), some (.ref 41)], [.ref 3], 0, 0)) (M' := (I, J, sm_rf t d)) rfl trivial ?_
    obtain ⟨r1, hc, h⟩ := sd_q1_go h
    refine sm_W.cal (sm_C_mono D) (y := 33) (as := [.ref 3]) (fr' := (21, [some (.ref 3), some (.ref 41)], [], 0, 0)) rfl (T_Reader_atPart (by omega) hc ?_)
    show sm_W sm_sh X (sm_C sm_sh X sm_P D) me_34 Q (21, [some (.ref 3), some (.ref 41)], [.int r1], 0, 0) (I, J, sm_rf t d)
    refine sm_W.run (sm_C_mono D) 1 (G := True) (fr' := (if decide (r1 = 0) = true then 34 else 22, [some (.ref 3), some (.ref 41)], [], 0, 0)) (M' := (I, J, sm_rf t d)) rfl trivial (sm_W.iteD h (fun hc h => ?_) (fun hc h => ?_))
    · refine sm_W.run (sm_C_mono D) 3 (G := True) (fr' := (sm_sw (Int32.toInt (I 3 2)) (7) [37, 49, 61, 75] 89, [some (.ref 3), some (.ref 41)], [], 0, 0)) (M' := (I, J, sm_rf t d)) rfl trivial ?_
      rw [sd_sw_eq]
      refine sm_W.swS (c := (7 : Int32)) (by decide) h (fun h => ?_) (fun h => ?_)
      · refine sm_W.run (sm_C_mono D) 2 (G := True) (fr' := (39, [some (.ref 3), some (.ref 41)], [.ref 41, .ref 3], 0, 0)) (M' := (I, J, sm_rf t d)) rfl trivial ?_
        obtain ⟨r2, I3, hc, h⟩ := sd_q2_go h
        refine sm_W.cal (sm_C_mono D) (y := 38) (as := [.ref 3, .ref 41]) (fr' := (40, [some (.ref 3), some (.ref 41)], [], 0, 0)) rfl (T_Reader_readPiece (by omega) (by decide) hc ?_)
        show sm_W sm_sh X (sm_C sm_sh X sm_P D) me_34 Q (40, [some (.ref 3), some (.ref 41)], [.int r2], 0, 0) (I3, J, sm_rf t d)
        refine sm_W.run (sm_C_mono D) 1 (G := True) (fr' := (if decide (r2 = 0) = true then 47 else 41, [some (.ref 3), some (.ref 41)], [], 0, 0)) (M' := (I3, J, sm_rf t d)) rfl trivial (sm_W.iteD h (fun hc h => ?_) (fun hc h => ?_))
        · refine sm_W.run (sm_C_mono D) 1 (G := True) (fr' := (48, [some (.ref 3), some (.ref 41)], [.int (0 : Int32)], 0, 0)) (M' := (I3, J, sm_rf t d)) rfl trivial ?_
          cases h
          exact sm_W.ret (sm_C_mono D) rfl hQ
        · refine sm_W.run (sm_C_mono D) 2 (G := True) (fr' := (43, [some (.ref 3), some (.ref 41)], [.int (59 : Int32), .ref 3], 0, 0)) (M' := (I3, J, sm_rf t d)) rfl trivial ?_
          obtain ⟨r4, I5, hc, h⟩ := sd_q2_go h
          refine sm_W.cal (sm_C_mono D) (y := 35) (as := [.ref 3, .int (59 : Int32)]) (fr' := (44, [some (.ref 3), some (.ref 41)], [], 0, 0)) rfl (T_Reader_readSign (by omega) hc ?_)
          show sm_W sm_sh X (sm_C sm_sh X sm_P D) me_34 Q (44, [some (.ref 3), some (.ref 41)], [.int r4], 0, 0) (I5, J, sm_rf t d)
          refine sm_W.run (sm_C_mono D) 1 (G := True) (fr' := (if decide (r4 = 0) = true then 47 else 45, [some (.ref 3), some (.ref 41)], [], 0, 0)) (M' := (I5, J, sm_rf t d)) rfl trivial (sm_W.iteD h (fun hc h => ?_) (fun hc h => ?_))
          · refine sm_W.run (sm_C_mono D) 1 (G := True) (fr' := (48, [some (.ref 3), some (.ref 41)], [.int (0 : Int32)], 0, 0)) (M' := (I5, J, sm_rf t d)) rfl trivial ?_
            cases h
            exact sm_W.ret (sm_C_mono D) rfl hQ
          · refine sm_W.run (sm_C_mono D) 2 (G := True) (fr' := (48, [some (.ref 3), some (.ref 41)], [.int (1 : Int32)], 0, 0)) (M' := (I5, J, sm_rf t d)) rfl trivial ?_
            cases h
            exact sm_W.ret (sm_C_mono D) rfl hQ
      refine sm_W.swS (c := (8 : Int32)) (by decide) h (fun h => ?_) (fun h => ?_)
      · refine sm_W.run (sm_C_mono D) 2 (G := True) (fr' := (51, [some (.ref 3), some (.ref 41)], [.ref 41, .ref 3], 0, 0)) (M' := (I, J, sm_rf t d)) rfl trivial ?_
        obtain ⟨r6, I7, hc, h⟩ := sd_q2_go h
        refine sm_W.cal (sm_C_mono D) (y := 40) (as := [.ref 3, .ref 41]) (fr' := (52, [some (.ref 3), some (.ref 41)], [], 0, 0)) rfl (T_Reader_readEvery (by omega) (by decide) hc ?_)
        show sm_W sm_sh X (sm_C sm_sh X sm_P D) me_34 Q (52, [some (.ref 3), some (.ref 41)], [.int r6], 0, 0) (I7, J, sm_rf t d)
        refine sm_W.run (sm_C_mono D) 1 (G := True) (fr' := (if decide (r6 = 0) = true then 59 else 53, [some (.ref 3), some (.ref 41)], [], 0, 0)) (M' := (I7, J, sm_rf t d)) rfl trivial (sm_W.iteD h (fun hc h => ?_) (fun hc h => ?_))
        · refine sm_W.run (sm_C_mono D) 1 (G := True) (fr' := (60, [some (.ref 3), some (.ref 41)], [.int (0 : Int32)], 0, 0)) (M' := (I7, J, sm_rf t d)) rfl trivial ?_
          cases h
          exact sm_W.ret (sm_C_mono D) rfl hQ
        · refine sm_W.run (sm_C_mono D) 2 (G := True) (fr' := (55, [some (.ref 3), some (.ref 41)], [.int (59 : Int32), .ref 3], 0, 0)) (M' := (I7, J, sm_rf t d)) rfl trivial ?_
          obtain ⟨r8, I9, hc, h⟩ := sd_q2_go h
          refine sm_W.cal (sm_C_mono D) (y := 35) (as := [.ref 3, .int (59 : Int32)]) (fr' := (56, [some (.ref 3), some (.ref 41)], [], 0, 0)) rfl (T_Reader_readSign (by omega) hc ?_)
          show sm_W sm_sh X (sm_C sm_sh X sm_P D) me_34 Q (56, [some (.ref 3), some (.ref 41)], [.int r8], 0, 0) (I9, J, sm_rf t d)
          refine sm_W.run (sm_C_mono D) 1 (G := True) (fr' := (if decide (r8 = 0) = true then 59 else 57, [some (.ref 3), some (.ref 41)], [], 0, 0)) (M' := (I9, J, sm_rf t d)) rfl trivial (sm_W.iteD h (fun hc h => ?_) (fun hc h => ?_))
          · refine sm_W.run (sm_C_mono D) 1 (G := True) (fr' := (60, [some (.ref 3), some (.ref 41)], [.int (0 : Int32)], 0, 0)) (M' := (I9, J, sm_rf t d)) rfl trivial ?_
            cases h
            exact sm_W.ret (sm_C_mono D) rfl hQ
          · refine sm_W.run (sm_C_mono D) 2 (G := True) (fr' := (60, [some (.ref 3), some (.ref 41)], [.int (1 : Int32)], 0, 0)) (M' := (I9, J, sm_rf t d)) rfl trivial ?_
            cases h
            exact sm_W.ret (sm_C_mono D) rfl hQ
      refine sm_W.swS (c := (9 : Int32)) (by decide) h (fun h => ?_) (fun h => ?_)
      · refine sm_W.run (sm_C_mono D) 4 (G := True) (fr' := (65, [some (.ref 3), some (.ref 41)], [.int (0 : Int32), .ref (41 + 14), .ref 3], 0, 0)) (M' := (I, J, sm_rf t d)) rfl trivial ?_
        obtain ⟨r10, I11, hc, h⟩ := sd_q2_go h
        refine sm_W.cal (sm_C_mono D) (y := 41) (as := [.ref 3, .ref (41 + 14), .int (0 : Int32)]) (fr' := (66, [some (.ref 3), some (.ref 41)], [], 0, 0)) rfl (T_Reader_readRule (by omega) (by decide) hc ?_)
        show sm_W sm_sh X (sm_C sm_sh X sm_P D) me_34 Q (66, [some (.ref 3), some (.ref 41)], [.int r10], 0, 0) (I11, J, sm_rf t d)
        refine sm_W.run (sm_C_mono D) 1 (G := True) (fr' := (if decide (r10 = 0) = true then 73 else 67, [some (.ref 3), some (.ref 41)], [], 0, 0)) (M' := (I11, J, sm_rf t d)) rfl trivial (sm_W.iteD h (fun hc h => ?_) (fun hc h => ?_))
        · refine sm_W.run (sm_C_mono D) 1 (G := True) (fr' := (74, [some (.ref 3), some (.ref 41)], [.int (0 : Int32)], 0, 0)) (M' := (I11, J, sm_rf t d)) rfl trivial ?_
          cases h
          exact sm_W.ret (sm_C_mono D) rfl hQ
        · refine sm_W.run (sm_C_mono D) 2 (G := True) (fr' := (69, [some (.ref 3), some (.ref 41)], [.int (59 : Int32), .ref 3], 0, 0)) (M' := (I11, J, sm_rf t d)) rfl trivial ?_
          obtain ⟨r12, I13, hc, h⟩ := sd_q2_go h
          refine sm_W.cal (sm_C_mono D) (y := 35) (as := [.ref 3, .int (59 : Int32)]) (fr' := (70, [some (.ref 3), some (.ref 41)], [], 0, 0)) rfl (T_Reader_readSign (by omega) hc ?_)
          show sm_W sm_sh X (sm_C sm_sh X sm_P D) me_34 Q (70, [some (.ref 3), some (.ref 41)], [.int r12], 0, 0) (I13, J, sm_rf t d)
          refine sm_W.run (sm_C_mono D) 1 (G := True) (fr' := (if decide (r12 = 0) = true then 73 else 71, [some (.ref 3), some (.ref 41)], [], 0, 0)) (M' := (I13, J, sm_rf t d)) rfl trivial (sm_W.iteD h (fun hc h => ?_) (fun hc h => ?_))
          · refine sm_W.run (sm_C_mono D) 1 (G := True) (fr' := (74, [some (.ref 3), some (.ref 41)], [.int (0 : Int32)], 0, 0)) (M' := (I13, J, sm_rf t d)) rfl trivial ?_
            cases h
            exact sm_W.ret (sm_C_mono D) rfl hQ
          · refine sm_W.run (sm_C_mono D) 2 (G := True) (fr' := (74, [some (.ref 3), some (.ref 41)], [.int (1 : Int32)], 0, 0)) (M' := (I13, J, sm_rf t d)) rfl trivial ?_
            cases h
            exact sm_W.ret (sm_C_mono D) rfl hQ
      refine sm_W.swS (c := (10 : Int32)) (by decide) h (fun h => ?_) (fun h => ?_)
      · refine sm_W.run (sm_C_mono D) 4 (G := True) (fr' := (79, [some (.ref 3), some (.ref 41)], [.int (2 : Int32), .ref (41 + 14), .ref 3], 0, 0)) (M' := (I, J, sm_rf t d)) rfl trivial ?_
        obtain ⟨r14, I15, hc, h⟩ := sd_q2_go h
        refine sm_W.cal (sm_C_mono D) (y := 41) (as := [.ref 3, .ref (41 + 14), .int (2 : Int32)]) (fr' := (80, [some (.ref 3), some (.ref 41)], [], 0, 0)) rfl (T_Reader_readRule (by omega) (by decide) hc ?_)
        show sm_W sm_sh X (sm_C sm_sh X sm_P D) me_34 Q (80, [some (.ref 3), some (.ref 41)], [.int r14], 0, 0) (I15, J, sm_rf t d)
        refine sm_W.run (sm_C_mono D) 1 (G := True) (fr' := (if decide (r14 = 0) = true then 87 else 81, [some (.ref 3), some (.ref 41)], [], 0, 0)) (M' := (I15, J, sm_rf t d)) rfl trivial (sm_W.iteD h (fun hc h => ?_) (fun hc h => ?_))
        · refine sm_W.run (sm_C_mono D) 1 (G := True) (fr' := (88, [some (.ref 3), some (.ref 41)], [.int (0 : Int32)], 0, 0)) (M' := (I15, J, sm_rf t d)) rfl trivial ?_
          cases h
          exact sm_W.ret (sm_C_mono D) rfl hQ
        · refine sm_W.run (sm_C_mono D) 2 (G := True) (fr' := (83, [some (.ref 3), some (.ref 41)], [.int (59 : Int32), .ref 3], 0, 0)) (M' := (I15, J, sm_rf t d)) rfl trivial ?_
          obtain ⟨r16, I17, hc, h⟩ := sd_q2_go h
          refine sm_W.cal (sm_C_mono D) (y := 35) (as := [.ref 3, .int (59 : Int32)]) (fr' := (84, [some (.ref 3), some (.ref 41)], [], 0, 0)) rfl (T_Reader_readSign (by omega) hc ?_)
          show sm_W sm_sh X (sm_C sm_sh X sm_P D) me_34 Q (84, [some (.ref 3), some (.ref 41)], [.int r16], 0, 0) (I17, J, sm_rf t d)
          refine sm_W.run (sm_C_mono D) 1 (G := True) (fr' := (if decide (r16 = 0) = true then 87 else 85, [some (.ref 3), some (.ref 41)], [], 0, 0)) (M' := (I17, J, sm_rf t d)) rfl trivial (sm_W.iteD h (fun hc h => ?_) (fun hc h => ?_))
          · refine sm_W.run (sm_C_mono D) 1 (G := True) (fr' := (88, [some (.ref 3), some (.ref 41)], [.int (0 : Int32)], 0, 0)) (M' := (I17, J, sm_rf t d)) rfl trivial ?_
            cases h
            exact sm_W.ret (sm_C_mono D) rfl hQ
          · refine sm_W.run (sm_C_mono D) 2 (G := True) (fr' := (88, [some (.ref 3), some (.ref 41)], [.int (1 : Int32)], 0, 0)) (M' := (I17, J, sm_rf t d)) rfl trivial ?_
            cases h
            exact sm_W.ret (sm_C_mono D) rfl hQ
      refine sm_W.run (sm_C_mono D) 2 (G := True) (fr' := (91, [some (.ref 3), some (.ref 41)], [.int (1 : Int32), .ref 3], 0, 0)) (M' := (I, J, sm_rf t d)) rfl trivial ?_
      obtain ⟨r18, I19, hc, h⟩ := sd_q2_go h
      refine sm_W.cal (sm_C_mono D) (y := 28) (as := [.ref 3, .int (1 : Int32)]) (fr' := (92, [some (.ref 3), some (.ref 41)], [], 0, 0)) rfl (T_Reader_fail (by omega) hc ?_)
      show sm_W sm_sh X (sm_C sm_sh X sm_P D) me_34 Q (92, [some (.ref 3), some (.ref 41)], [.int r18], 0, 0) (I19, J, sm_rf t d)
      cases h
      exact sm_W.ret (sm_C_mono D) rfl hQ
    · refine sm_W.run (sm_C_mono D) 2 (G := True) (fr' := (24, [some (.ref 3), some (.ref 41)], [.ref 41, .ref 3], 0, 0)) (M' := (I, J, sm_rf t d)) rfl trivial ?_
      obtain ⟨r20, I21, hc, h⟩ := sd_q2_go h
      refine sm_W.cal (sm_C_mono D) (y := 39) (as := [.ref 3, .ref 41]) (fr' := (25, [some (.ref 3), some (.ref 41)], [], 0, 0)) rfl (T_Reader_readRow (by omega) (by decide) hc ?_)
      show sm_W sm_sh X (sm_C sm_sh X sm_P D) me_34 Q (25, [some (.ref 3), some (.ref 41)], [.int r20], 0, 0) (I21, J, sm_rf t d)
      refine sm_W.run (sm_C_mono D) 1 (G := True) (fr' := (if decide (r20 = 0) = true then 32 else 26, [some (.ref 3), some (.ref 41)], [], 0, 0)) (M' := (I21, J, sm_rf t d)) rfl trivial (sm_W.iteD h (fun hc h => ?_) (fun hc h => ?_))
      · refine sm_W.run (sm_C_mono D) 1 (G := True) (fr' := (33, [some (.ref 3), some (.ref 41)], [.int (0 : Int32)], 0, 0)) (M' := (I21, J, sm_rf t d)) rfl trivial ?_
        cases h
        exact sm_W.ret (sm_C_mono D) rfl hQ
      · refine sm_W.run (sm_C_mono D) 2 (G := True) (fr' := (28, [some (.ref 3), some (.ref 41)], [.int (59 : Int32), .ref 3], 0, 0)) (M' := (I21, J, sm_rf t d)) rfl trivial ?_
        obtain ⟨r22, I23, hc, h⟩ := sd_q2_go h
        refine sm_W.cal (sm_C_mono D) (y := 35) (as := [.ref 3, .int (59 : Int32)]) (fr' := (29, [some (.ref 3), some (.ref 41)], [], 0, 0)) rfl (T_Reader_readSign (by omega) hc ?_)
        show sm_W sm_sh X (sm_C sm_sh X sm_P D) me_34 Q (29, [some (.ref 3), some (.ref 41)], [.int r22], 0, 0) (I23, J, sm_rf t d)
        refine sm_W.run (sm_C_mono D) 1 (G := True) (fr' := (if decide (r22 = 0) = true then 32 else 30, [some (.ref 3), some (.ref 41)], [], 0, 0)) (M' := (I23, J, sm_rf t d)) rfl trivial (sm_W.iteD h (fun hc h => ?_) (fun hc h => ?_))
        · refine sm_W.run (sm_C_mono D) 1 (G := True) (fr' := (33, [some (.ref 3), some (.ref 41)], [.int (0 : Int32)], 0, 0)) (M' := (I23, J, sm_rf t d)) rfl trivial ?_
          cases h
          exact sm_W.ret (sm_C_mono D) rfl hQ
        · refine sm_W.run (sm_C_mono D) 2 (G := True) (fr' := (33, [some (.ref 3), some (.ref 41)], [.int (1 : Int32)], 0, 0)) (M' := (I23, J, sm_rf t d)) rfl trivial ?_
          cases h
          exact sm_W.ret (sm_C_mono D) rfl hQ
theorem G_Reader_readLine {X : Nat × (Nat → Int32)} {t d D : Nat} {Q : sm_Q} {I : sm_MI} {J : sm_MJ} {p1 : Nat} {rz : Int32} {Iz : sm_MI}
    (hD : 67 ≤ D) (hp : (p1 = 21) ∨ (p1 = 41)) (h : F_Reader_readLine p1 I = some (rz, Iz)) (hQ : Q (.inl (some (.int rz))) (Iz, J, sm_rf t d))  : sm_W sm_sh X (sm_C sm_sh X sm_P D) me_34 Q (0, [some (.ref 3), some (.ref p1)], [], 0, 0) (I, J, sm_rf t d) := by
  unfold F_Reader_readLine at h
  rcases hp with rfl | rfl
  · skip
    refine sm_W.run (sm_C_mono D) 3 (G := True) (fr' := (if decide ((I 3 2) < 0) = true then 19 else 3, [some (.ref 3), some (.ref 21)], [], 0, 0)) (M' := (I, J, sm_rf t d)) rfl trivial (sm_W.iteD h (fun hc h => ?_) (fun hc h => ?_))
    · exact (G_Reader_readLine_19 hD (by decide) h hQ)
    · refine sm_W.run (sm_C_mono D) 4 (G := True) (fr' := (if decide ((2 : Int32) < (I 3 2)) = true then 19 else 7, [some (.ref 3), some (.ref 21)], [], 0, 0)) (M' := (I, J, sm_rf t d)) rfl trivial (sm_W.iteD h (fun hc h => ?_) (fun hc h => ?_))
      · exact (G_Reader_readLine_19 hD (by decide) h hQ)
      · refine sm_W.run (sm_C_mono D) 2 (G := True) (fr' := (9, [some (.ref 3), some (.ref 21)], [.ref 21, .ref 3], 0, 0)) (M' := (I, J, sm_rf t d)) rfl trivial ?_
        obtain ⟨r1, I2, hc, h⟩ := sd_q2_go h
        refine sm_W.cal (sm_C_mono D) (y := 37) (as := [.ref 3, .ref 21]) (fr' := (10, [some (.ref 3), some (.ref 21)], [], 0, 0)) rfl (T_Reader_readSinger (by omega) (by decide) hc ?_)
        show sm_W sm_sh X (sm_C sm_sh X sm_P D) me_34 Q (10, [some (.ref 3), some (.ref 21)], [.int r1], 0, 0) (I2, J, sm_rf t d)
        refine sm_W.run (sm_C_mono D) 1 (G := True) (fr' := (if decide (r1 = 0) = true then 17 else 11, [some (.ref 3), some (.ref 21)], [], 0, 0)) (M' := (I2, J, sm_rf t d)) rfl trivial (sm_W.iteD h (fun hc h => ?_) (fun hc h => ?_))
        · refine sm_W.run (sm_C_mono D) 1 (G := True) (fr' := (18, [some (.ref 3), some (.ref 21)], [.int (0 : Int32)], 0, 0)) (M' := (I2, J, sm_rf t d)) rfl trivial ?_
          cases h
          exact sm_W.ret (sm_C_mono D) rfl hQ
        · refine sm_W.run (sm_C_mono D) 2 (G := True) (fr' := (13, [some (.ref 3), some (.ref 21)], [.int (59 : Int32), .ref 3], 0, 0)) (M' := (I2, J, sm_rf t d)) rfl trivial ?_
          obtain ⟨r3, I4, hc, h⟩ := sd_q2_go h
          refine sm_W.cal (sm_C_mono D) (y := 35) (as := [.ref 3, .int (59 : Int32)]) (fr' := (14, [some (.ref 3), some (.ref 21)], [], 0, 0)) rfl (T_Reader_readSign (by omega) hc ?_)
          show sm_W sm_sh X (sm_C sm_sh X sm_P D) me_34 Q (14, [some (.ref 3), some (.ref 21)], [.int r3], 0, 0) (I4, J, sm_rf t d)
          refine sm_W.run (sm_C_mono D) 1 (G := True) (fr' := (if decide (r3 = 0) = true then 17 else 15, [some (.ref 3), some (.ref 21)], [], 0, 0)) (M' := (I4, J, sm_rf t d)) rfl trivial (sm_W.iteD h (fun hc h => ?_) (fun hc h => ?_))
          · refine sm_W.run (sm_C_mono D) 1 (G := True) (fr' := (18, [some (.ref 3), some (.ref 21)], [.int (0 : Int32)], 0, 0)) (M' := (I4, J, sm_rf t d)) rfl trivial ?_
            cases h
            exact sm_W.ret (sm_C_mono D) rfl hQ
          · refine sm_W.run (sm_C_mono D) 2 (G := True) (fr' := (18, [some (.ref 3), some (.ref 21)], [.int (1 : Int32)], 0, 0)) (M' := (I4, J, sm_rf t d)) rfl trivial ?_
            cases h
            exact sm_W.ret (sm_C_mono D) rfl hQ
  · skip
    refine sm_W.run (sm_C_mono D) 3 (G := True) (fr' := (if decide ((I 3 2) < 0) = true then 19 else 3, [some (.ref 3), some (.ref 41)], [], 0, 0)) (M' := (I, J, sm_rf t d)) rfl trivial (sm_W.iteD h (fun hc h => ?_) (fun hc h => ?_))
    · exact (G_Reader_readLine_19 hD (by decide) h hQ)
    · refine sm_W.run (sm_C_mono D) 4 (G := True) (fr' := (if decide ((2 : Int32) < (I 3 2)) = true then 19 else 7, [some (.ref 3), some (.ref 41)], [], 0, 0)) (M' := (I, J, sm_rf t d)) rfl trivial (sm_W.iteD h (fun hc h => ?_) (fun hc h => ?_))
      · exact (G_Reader_readLine_19 hD (by decide) h hQ)
      · refine sm_W.run (sm_C_mono D) 2 (G := True) (fr' := (9, [some (.ref 3), some (.ref 41)], [.ref 41, .ref 3], 0, 0)) (M' := (I, J, sm_rf t d)) rfl trivial ?_
        obtain ⟨r1, I2, hc, h⟩ := sd_q2_go h
        refine sm_W.cal (sm_C_mono D) (y := 37) (as := [.ref 3, .ref 41]) (fr' := (10, [some (.ref 3), some (.ref 41)], [], 0, 0)) rfl (T_Reader_readSinger (by omega) (by decide) hc ?_)
        show sm_W sm_sh X (sm_C sm_sh X sm_P D) me_34 Q (10, [some (.ref 3), some (.ref 41)], [.int r1], 0, 0) (I2, J, sm_rf t d)
        refine sm_W.run (sm_C_mono D) 1 (G := True) (fr' := (if decide (r1 = 0) = true then 17 else 11, [some (.ref 3), some (.ref 41)], [], 0, 0)) (M' := (I2, J, sm_rf t d)) rfl trivial (sm_W.iteD h (fun hc h => ?_) (fun hc h => ?_))
        · refine sm_W.run (sm_C_mono D) 1 (G := True) (fr' := (18, [some (.ref 3), some (.ref 41)], [.int (0 : Int32)], 0, 0)) (M' := (I2, J, sm_rf t d)) rfl trivial ?_
          cases h
          exact sm_W.ret (sm_C_mono D) rfl hQ
        · refine sm_W.run (sm_C_mono D) 2 (G := True) (fr' := (13, [some (.ref 3), some (.ref 41)], [.int (59 : Int32), .ref 3], 0, 0)) (M' := (I2, J, sm_rf t d)) rfl trivial ?_
          obtain ⟨r3, I4, hc, h⟩ := sd_q2_go h
          refine sm_W.cal (sm_C_mono D) (y := 35) (as := [.ref 3, .int (59 : Int32)]) (fr' := (14, [some (.ref 3), some (.ref 41)], [], 0, 0)) rfl (T_Reader_readSign (by omega) hc ?_)
          show sm_W sm_sh X (sm_C sm_sh X sm_P D) me_34 Q (14, [some (.ref 3), some (.ref 41)], [.int r3], 0, 0) (I4, J, sm_rf t d)
          refine sm_W.run (sm_C_mono D) 1 (G := True) (fr' := (if decide (r3 = 0) = true then 17 else 15, [some (.ref 3), some (.ref 41)], [], 0, 0)) (M' := (I4, J, sm_rf t d)) rfl trivial (sm_W.iteD h (fun hc h => ?_) (fun hc h => ?_))
          · refine sm_W.run (sm_C_mono D) 1 (G := True) (fr' := (18, [some (.ref 3), some (.ref 41)], [.int (0 : Int32)], 0, 0)) (M' := (I4, J, sm_rf t d)) rfl trivial ?_
            cases h
            exact sm_W.ret (sm_C_mono D) rfl hQ
          · refine sm_W.run (sm_C_mono D) 2 (G := True) (fr' := (18, [some (.ref 3), some (.ref 41)], [.int (1 : Int32)], 0, 0)) (M' := (I4, J, sm_rf t d)) rfl trivial ?_
            cases h
            exact sm_W.ret (sm_C_mono D) rfl hQ
theorem T_Reader_readLine {X : Nat × (Nat → Int32)} {t d D : Nat} {Q : sm_Q} {I : sm_MI} {J : sm_MJ} {p1 : Nat} {rz : Int32} {Iz : sm_MI}
    (hD : 68 ≤ D) (hp : (p1 = 21) ∨ (p1 = 41)) (h : F_Reader_readLine p1 I = some (rz, Iz)) (hQ : Q (.inl (some (.int rz))) (Iz, J, sm_rf t d)) : sm_C sm_sh X sm_P D 34 [.ref 3, .ref p1] (I, J, sm_rf t d) Q := by
  cases D with
  | zero => omega
  | succ D => exact sm_C.of (me := me_34) (L := [some (.ref 3), some (.ref p1)]) rfl rfl rfl (sm_W.forget (L' := [some (.ref 3), some (.ref p1)]) ⟨rfl, ⟨rfl, trivial⟩⟩ (G_Reader_readLine (by omega) hp h hQ))
-- 70 Tape_keep
noncomputable def F_Tape_keep (x1 : Int32) (x2 : Int32) (I : sm_MI) : Option (sm_MI) :=
  if (I 4 4) < 0 then
    some (I)
  else
    if (700 : Int32) ≤ (I 4 4) then
      some (I)
    else
      sd_gu (sm_in (I 4 4) 700 = true) <|
      sd_lt (sd_up I 6 (Int32.toNatClampNeg (I 4 4)) x1) fun I2 =>
      sd_gu (sm_in (I2 4 4) 700 = true) <|
      sd_lt (sd_up I2 7 (Int32.toNatClampNeg (I2 4 4)) x2) fun I4 =>
      sd_lt (sd_up I4 4 4 ((I4 4 4) + (1 : Int32))) fun I5 =>
      some (I5)
theorem G_Tape_keep {X : Nat × (Nat → Int32)} {t d D : Nat} {Q : sm_Q} {I : sm_MI} {J : sm_MJ} {x1 : Int32} {x2 : Int32} {Iz : sm_MI}
    (hD : 0 ≤ D) (h : F_Tape_keep x1 x2 I = some (Iz)) (hQ : Q (.inl none) (Iz, J, sm_rf t d))  : sm_W sm_sh X (sm_C sm_sh X sm_P D) me_70 Q (0, [some (.ref 4), some (.int x1), some (.int x2)], [], 0, 0) (I, J, sm_rf t d) := by
  unfold F_Tape_keep at h
  refine sm_W.run (sm_C_mono D) 3 (G := True) (fr' := (if decide ((I 4 4) < 0) = true then 25 else 3, [some (.ref 4), some (.int x1), some (.int x2)], [], 0, 0)) (M' := (I, J, sm_rf t d)) rfl trivial (sm_W.iteD h (fun hc h => ?_) (fun hc h => ?_))
  · cases h
    exact sm_W.ret (sm_C_mono D) rfl hQ
  · refine sm_W.run (sm_C_mono D) 4 (G := True) (fr' := (if decide ((700 : Int32) ≤ (I 4 4)) = true then 25 else 7, [some (.ref 4), some (.int x1), some (.int x2)], [], 0, 0)) (M' := (I, J, sm_rf t d)) rfl trivial (sm_W.iteD h (fun hc h => ?_) (fun hc h => ?_))
    · cases h
      exact sm_W.ret (sm_C_mono D) rfl hQ
    · obtain ⟨g1, h⟩ := sd_gu_go h
      refine sm_W.runL (sm_C_mono D) 6 (G := sm_in (I 4 4) 700 = true ∧ True) (e := (sd_up I 6 (Int32.toNatClampNeg (I 4 4)) x1)) (fr' := fun _ => (13, [some (.ref 4), some (.int x1), some (.int x2)], [], 0, 0)) (M' := fun I2 => (I2, J, sm_rf t d)) rfl h ⟨g1, trivial⟩ (fun I2 h => ?_)
      obtain ⟨g3, h⟩ := sd_gu_go h
      refine sm_W.runL (sm_C_mono D) 6 (G := sm_in (I2 4 4) 700 = true ∧ True) (e := (sd_up I2 7 (Int32.toNatClampNeg (I2 4 4)) x2)) (fr' := fun _ => (19, [some (.ref 4), some (.int x1), some (.int x2)], [], 0, 0)) (M' := fun I4 => (I4, J, sm_rf t d)) rfl h ⟨g3, trivial⟩ (fun I4 h => ?_)
      refine sm_W.runL (sm_C_mono D) 6 (G := True) (e := (sd_up I4 4 4 ((I4 4 4) + (1 : Int32)))) (fr' := fun _ => (25, [some (.ref 4), some (.int x1), some (.int x2)], [], 0, 0)) (M' := fun I5 => (I5, J, sm_rf t d)) rfl h trivial (fun I5 h => ?_)
      cases h
      exact sm_W.ret (sm_C_mono D) rfl hQ
theorem T_Tape_keep {X : Nat × (Nat → Int32)} {t d D : Nat} {Q : sm_Q} {I : sm_MI} {J : sm_MJ} {x1 : Int32} {x2 : Int32} {Iz : sm_MI}
    (hD : 1 ≤ D) (h : F_Tape_keep x1 x2 I = some (Iz)) (hQ : Q (.inl none) (Iz, J, sm_rf t d)) : sm_C sm_sh X sm_P D 70 [.ref 4, .int x1, .int x2] (I, J, sm_rf t d) Q := by
  cases D with
  | zero => omega
  | succ D => exact sm_C.of (me := me_70) (L := [some (.ref 4), some (.int x1), some (.int x2)]) rfl rfl rfl (sm_W.forget (L' := [some (.ref 4), some (.int x1), some (.int x2)]) ⟨rfl, ⟨rfl, ⟨rfl, trivial⟩⟩⟩ (G_Tape_keep (by omega) h hQ))
-- 71 Tape_byteAt
noncomputable def F_Tape_byteAt (x1 : Int32) (I : sm_MI) : Option (Int32) :=
  if x1 < 0 then
    some ((-1 : Int32))
  else
    if (I 4 5) ≤ x1 then
      some ((-1 : Int32))
    else
      if (700 : Int32) ≤ x1 then
        some ((-1 : Int32))
      else
        sd_gu (sm_in x1 700 = true) <|
        some ((I 5 (Int32.toNatClampNeg x1)))
theorem G_Tape_byteAt {X : Nat × (Nat → Int32)} {t d D : Nat} {Q : sm_Q} {I : sm_MI} {J : sm_MJ} {x1 : Int32} {rz : Int32}
    (hD : 0 ≤ D) (h : F_Tape_byteAt x1 I = some (rz)) (hQ : Q (.inl (some (.int rz))) (I, J, sm_rf t d))  : sm_W sm_sh X (sm_C sm_sh X sm_P D) me_71 Q (0, [some (.ref 4), some (.int x1)], [], 0, 0) (I, J, sm_rf t d) := by
  unfold F_Tape_byteAt at h
  refine sm_W.run (sm_C_mono D) 2 (G := True) (fr' := (if decide (x1 < 0) = true then 14 else 2, [some (.ref 4), some (.int x1)], [], 0, 0)) (M' := (I, J, sm_rf t d)) rfl trivial (sm_W.iteD h (fun hc h => ?_) (fun hc h => ?_))
  · refine sm_W.run (sm_C_mono D) 1 (G := True) (fr' := (15, [some (.ref 4), some (.int x1)], [.int (-1 : Int32)], 0, 0)) (M' := (I, J, sm_rf t d)) rfl trivial ?_
    cases h
    exact sm_W.ret (sm_C_mono D) rfl hQ
  · refine sm_W.run (sm_C_mono D) 4 (G := True) (fr' := (if decide ((I 4 5) ≤ x1) = true then 14 else 6, [some (.ref 4), some (.int x1)], [], 0, 0)) (M' := (I, J, sm_rf t d)) rfl trivial (sm_W.iteD h (fun hc h => ?_) (fun hc h => ?_))
    · refine sm_W.run (sm_C_mono D) 1 (G := True) (fr' := (15, [some (.ref 4), some (.int x1)], [.int (-1 : Int32)], 0, 0)) (M' := (I, J, sm_rf t d)) rfl trivial ?_
      cases h
      exact sm_W.ret (sm_C_mono D) rfl hQ
    · refine sm_W.run (sm_C_mono D) 3 (G := True) (fr' := (if decide ((700 : Int32) ≤ x1) = true then 14 else 9, [some (.ref 4), some (.int x1)], [], 0, 0)) (M' := (I, J, sm_rf t d)) rfl trivial (sm_W.iteD h (fun hc h => ?_) (fun hc h => ?_))
      · refine sm_W.run (sm_C_mono D) 1 (G := True) (fr' := (15, [some (.ref 4), some (.int x1)], [.int (-1 : Int32)], 0, 0)) (M' := (I, J, sm_rf t d)) rfl trivial ?_
        cases h
        exact sm_W.ret (sm_C_mono D) rfl hQ
      · obtain ⟨g1, h⟩ := sd_gu_go h
        refine sm_W.run (sm_C_mono D) 5 (G := sm_in x1 700 = true ∧ True) (fr' := (15, [some (.ref 4), some (.int x1)], [.int (I 5 (Int32.toNatClampNeg x1))], 0, 0)) (M' := (I, J, sm_rf t d)) rfl ⟨g1, trivial⟩ ?_
        cases h
        exact sm_W.ret (sm_C_mono D) rfl hQ
theorem T_Tape_byteAt {X : Nat × (Nat → Int32)} {t d D : Nat} {Q : sm_Q} {I : sm_MI} {J : sm_MJ} {x1 : Int32} {rz : Int32}
    (hD : 1 ≤ D) (h : F_Tape_byteAt x1 I = some (rz)) (hQ : Q (.inl (some (.int rz))) (I, J, sm_rf t d)) : sm_C sm_sh X sm_P D 71 [.ref 4, .int x1] (I, J, sm_rf t d) Q := by
  cases D with
  | zero => omega
  | succ D => exact sm_C.of (me := me_71) (L := [some (.ref 4), some (.int x1)]) rfl rfl rfl (sm_W.forget (L' := [some (.ref 4), some (.int x1)]) ⟨rfl, ⟨rfl, trivial⟩⟩ (G_Tape_byteAt (by omega) h hQ))
-- 72 Tape_isLetter
noncomputable def F_Tape_isLetter (x0 : Int32) : Option (Int32) :=
  if x0 < (97 : Int32) then
    some ((0 : Int32))
  else
    if (122 : Int32) < x0 then
      some ((0 : Int32))
    else
      some ((1 : Int32))
theorem G_Tape_isLetter {X : Nat × (Nat → Int32)} {t d D : Nat} {Q : sm_Q} {I : sm_MI} {J : sm_MJ} {x0 : Int32} {rz : Int32}
    (hD : 0 ≤ D) (h : F_Tape_isLetter x0 = some (rz)) (hQ : Q (.inl (some (.int rz))) (I, J, sm_rf t d))  : sm_W sm_sh X (sm_C sm_sh X sm_P D) me_72 Q (0, [some (.int x0)], [], 0, 0) (I, J, sm_rf t d) := by
  unfold F_Tape_isLetter at h
  refine sm_W.run (sm_C_mono D) 3 (G := True) (fr' := (if decide (x0 < (97 : Int32)) = true then 8 else 3, [some (.int x0)], [], 0, 0)) (M' := (I, J, sm_rf t d)) rfl trivial (sm_W.iteD h (fun hc h => ?_) (fun hc h => ?_))
  · refine sm_W.run (sm_C_mono D) 1 (G := True) (fr' := (9, [some (.int x0)], [.int (0 : Int32)], 0, 0)) (M' := (I, J, sm_rf t d)) rfl trivial ?_
    cases h
    exact sm_W.ret (sm_C_mono D) rfl hQ
  · refine sm_W.run (sm_C_mono D) 3 (G := True) (fr' := (if decide ((122 : Int32) < x0) = true then 8 else 6, [some (.int x0)], [], 0, 0)) (M' := (I, J, sm_rf t d)) rfl trivial (sm_W.iteD h (fun hc h => ?_) (fun hc h => ?_))
    · refine sm_W.run (sm_C_mono D) 1 (G := True) (fr' := (9, [some (.int x0)], [.int (0 : Int32)], 0, 0)) (M' := (I, J, sm_rf t d)) rfl trivial ?_
      cases h
      exact sm_W.ret (sm_C_mono D) rfl hQ
    · refine sm_W.run (sm_C_mono D) 2 (G := True) (fr' := (9, [some (.int x0)], [.int (1 : Int32)], 0, 0)) (M' := (I, J, sm_rf t d)) rfl trivial ?_
      cases h
      exact sm_W.ret (sm_C_mono D) rfl hQ
theorem T_Tape_isLetter {X : Nat × (Nat → Int32)} {t d D : Nat} {Q : sm_Q} {I : sm_MI} {J : sm_MJ} {x0 : Int32} {rz : Int32}
    (hD : 1 ≤ D) (h : F_Tape_isLetter x0 = some (rz)) (hQ : Q (.inl (some (.int rz))) (I, J, sm_rf t d)) : sm_C sm_sh X sm_P D 72 [.int x0] (I, J, sm_rf t d) Q := by
  cases D with
  | zero => omega
  | succ D => exact sm_C.of (me := me_72) (L := [some (.int x0)]) rfl rfl rfl (sm_W.forget (L' := [some (.int x0)]) ⟨rfl, trivial⟩ (G_Tape_isLetter (by omega) h hQ))
-- 73 Tape_isDigit
noncomputable def F_Tape_isDigit (x0 : Int32) : Option (Int32) :=
  if x0 < (48 : Int32) then
    some ((0 : Int32))
  else
    if (57 : Int32) < x0 then
      some ((0 : Int32))
    else
      some ((1 : Int32))
theorem G_Tape_isDigit {X : Nat × (Nat → Int32)} {t d D : Nat} {Q : sm_Q} {I : sm_MI} {J : sm_MJ} {x0 : Int32} {rz : Int32}
    (hD : 0 ≤ D) (h : F_Tape_isDigit x0 = some (rz)) (hQ : Q (.inl (some (.int rz))) (I, J, sm_rf t d))  : sm_W sm_sh X (sm_C sm_sh X sm_P D) me_73 Q (0, [some (.int x0)], [], 0, 0) (I, J, sm_rf t d) := by
  unfold F_Tape_isDigit at h
  refine sm_W.run (sm_C_mono D) 3 (G := True) (fr' := (if decide (x0 < (48 : Int32)) = true then 8 else 3, [some (.int x0)], [], 0, 0)) (M' := (I, J, sm_rf t d)) rfl trivial (sm_W.iteD h (fun hc h => ?_) (fun hc h => ?_))
  · refine sm_W.run (sm_C_mono D) 1 (G := True) (fr' := (9, [some (.int x0)], [.int (0 : Int32)], 0, 0)) (M' := (I, J, sm_rf t d)) rfl trivial ?_
    cases h
    exact sm_W.ret (sm_C_mono D) rfl hQ
  · refine sm_W.run (sm_C_mono D) 3 (G := True) (fr' := (if decide ((57 : Int32) < x0) = true then 8 else 6, [some (.int x0)], [], 0, 0)) (M' := (I, J, sm_rf t d)) rfl trivial (sm_W.iteD h (fun hc h => ?_) (fun hc h => ?_))
    · refine sm_W.run (sm_C_mono D) 1 (G := True) (fr' := (9, [some (.int x0)], [.int (0 : Int32)], 0, 0)) (M' := (I, J, sm_rf t d)) rfl trivial ?_
      cases h
      exact sm_W.ret (sm_C_mono D) rfl hQ
    · refine sm_W.run (sm_C_mono D) 2 (G := True) (fr' := (9, [some (.int x0)], [.int (1 : Int32)], 0, 0)) (M' := (I, J, sm_rf t d)) rfl trivial ?_
      cases h
      exact sm_W.ret (sm_C_mono D) rfl hQ
theorem T_Tape_isDigit {X : Nat × (Nat → Int32)} {t d D : Nat} {Q : sm_Q} {I : sm_MI} {J : sm_MJ} {x0 : Int32} {rz : Int32}
    (hD : 1 ≤ D) (h : F_Tape_isDigit x0 = some (rz)) (hQ : Q (.inl (some (.int rz))) (I, J, sm_rf t d)) : sm_C sm_sh X sm_P D 73 [.int x0] (I, J, sm_rf t d) Q := by
  cases D with
  | zero => omega
  | succ D => exact sm_C.of (me := me_73) (L := [some (.int x0)]) rfl rfl rfl (sm_W.forget (L' := [some (.int x0)]) ⟨rfl, trivial⟩ (G_Tape_isDigit (by omega) h hQ))
-- 74 Tape_endOfToken
noncomputable def F_Tape_endOfToken_18B (k18 : Int32 → Option (Int32)) (x2 : Int32) (I : sm_MI) : Option (Int32) :=
  if (I 4 5) ≤ x2 then
    some (x2)
  else
    sd_q1 (F_Tape_byteAt x2 I) fun r1 =>
    sd_q1 (F_Tape_isDigit r1) fun r2 =>
    if r2 = 0 then
      some (x2)
    else
      k18 (x2 + (1 : Int32))
noncomputable def F_Tape_endOfToken_18 (I : sm_MI) (n : Nat) : Int32 → Option (Int32) :=
  sd_fix (fun k x2 => F_Tape_endOfToken_18B k x2 I) (fun _ => none) n
noncomputable def F_Tape_endOfToken_7B (k7 : Int32 → Option (Int32)) (x2 : Int32) (I : sm_MI) : Option (Int32) :=
  if (I 4 5) ≤ x2 then
    some (x2)
  else
    sd_q1 (F_Tape_byteAt x2 I) fun r1 =>
    sd_q1 (F_Tape_isLetter r1) fun r2 =>
    if r2 = 0 then
      some (x2)
    else
      k7 (x2 + (1 : Int32))
noncomputable def F_Tape_endOfToken_7 (I : sm_MI) (n : Nat) : Int32 → Option (Int32) :=
  sd_fix (fun k x2 => F_Tape_endOfToken_7B k x2 I) (fun _ => none) n
noncomputable def F_Tape_endOfToken (x1 : Int32) (I : sm_MI) : Option (Int32) :=
  sd_q1 (F_Tape_byteAt x1 I) fun r1 =>
  sd_q1 (F_Tape_isLetter r1) fun r2 =>
  if r2 = 0 then
    F_Tape_endOfToken_18 I sd_fu x1
  else
    F_Tape_endOfToken_7 I sd_fu x1
theorem G_Tape_endOfToken_18B {X : Nat × (Nat → Int32)} {t d D : Nat} {Q : sm_Q} {I : sm_MI} {J : sm_MJ} {k18 : Int32 → Option (Int32)} {x2 : Int32} {rz : Int32}
    (hD : 1 ≤ D) (h : F_Tape_endOfToken_18B k18 x2 I = some (rz)) (hQ : Q (.inl (some (.int rz))) (I, J, sm_rf t d)) (hk18 : ∀ (x2 : Int32), k18 x2 = some (rz) → sm_W sm_sh X (sm_C sm_sh X sm_P D) me_74 Q (18, [some (.ref 4), none, some (.int x2)], [], 0, 0) (I, J, sm_rf t d)) : sm_W sm_sh X (sm_C sm_sh X sm_P D) me_74 Q (18, [some (.ref 4), none, some (.int x2)], [], 0, 0) (I, J, sm_rf t d) := by
  unfold F_Tape_endOfToken_18B at h
  refine sm_W.run (sm_C_mono D) 4 (G := True) (fr' := (if decide ((I 4 5) ≤ x2) = true then 29 else 22, [some (.ref 4), none, some (.int x2)], [], 0, 0)) (M' := (I, J, sm_rf t d)) rfl trivial (sm_W.iteD h (fun hc h => ?_) (fun hc h => ?_))
  · refine sm_W.run (sm_C_mono D) 1 (G := True) (fr' := (30, [some (.ref 4), none, some (.int x2)], [.int x2], 0, 0)) (M' := (I, J, sm_rf t d)) rfl trivial ?_
    cases h
    exact sm_W.ret (sm_C_mono D) rfl hQ
  · refine sm_W.run (sm_C_mono D) 2 (G := True) (fr' := (24, [some (.ref 4), none, some (.int x2)], [.int x2, .ref 4], 0, 0)) (M' := (I, J, sm_rf t d)) rfl trivial ?_
    obtain ⟨r1, hc, h⟩ := sd_q1_go h
    refine sm_W.cal (sm_C_mono D) (y := 71) (as := [.ref 4, .int x2]) (fr' := (25, [some (.ref 4), none, some (.int x2)], [], 0, 0)) rfl (T_Tape_byteAt (by omega) hc ?_)
    show sm_W sm_sh X (sm_C sm_sh X sm_P D) me_74 Q (25, [some (.ref 4), none, some (.int x2)], [.int r1], 0, 0) (I, J, sm_rf t d)
    obtain ⟨r2, hc, h⟩ := sd_q1_go h
    refine sm_W.cal (sm_C_mono D) (y := 73) (as := [.int r1]) (fr' := (26, [some (.ref 4), none, some (.int x2)], [], 0, 0)) rfl (T_Tape_isDigit (by omega) hc ?_)
    show sm_W sm_sh X (sm_C sm_sh X sm_P D) me_74 Q (26, [some (.ref 4), none, some (.int x2)], [.int r2], 0, 0) (I, J, sm_rf t d)
    refine sm_W.run (sm_C_mono D) 1 (G := True) (fr' := (if decide (r2 = 0) = true then 29 else 27, [some (.ref 4), none, some (.int x2)], [], 0, 0)) (M' := (I, J, sm_rf t d)) rfl trivial (sm_W.iteD h (fun hc h => ?_) (fun hc h => ?_))
    · refine sm_W.run (sm_C_mono D) 1 (G := True) (fr' := (30, [some (.ref 4), none, some (.int x2)], [.int x2], 0, 0)) (M' := (I, J, sm_rf t d)) rfl trivial ?_
      cases h
      exact sm_W.ret (sm_C_mono D) rfl hQ
    · refine sm_W.run (sm_C_mono D) 2 (G := True) (fr' := (18, [some (.ref 4), none, some (.int (x2 + (1 : Int32)))], [], 0, 0)) (M' := (I, J, sm_rf t d)) rfl trivial ?_
      exact (hk18 _ h)
theorem G_Tape_endOfToken_18 {X : Nat × (Nat → Int32)} {t d D : Nat} {Q : sm_Q} {I : sm_MI} {J : sm_MJ} {rz : Int32}
    (hD : 1 ≤ D) (hQ : Q (.inl (some (.int rz))) (I, J, sm_rf t d))  : ∀ (n : Nat) (x2 : Int32), F_Tape_endOfToken_18 I n x2 = some (rz) → sm_W sm_sh X (sm_C sm_sh X sm_P D) me_74 Q (18, [some (.ref 4), none, some (.int x2)], [], 0, 0) (I, J, sm_rf t d) := by
  intro n
  induction n with
  | zero => intro x2 h; cases (show (none : Option (Int32)) = some (rz) from h)
  | succ n ih => intro x2 h; exact G_Tape_endOfToken_18B hD (show F_Tape_endOfToken_18B (F_Tape_endOfToken_18 I n) x2 I = some (rz) from h) hQ  ih
theorem G_Tape_endOfToken_7B {X : Nat × (Nat → Int32)} {t d D : Nat} {Q : sm_Q} {I : sm_MI} {J : sm_MJ} {k7 : Int32 → Option (Int32)} {x2 : Int32} {rz : Int32}
    (hD : 1 ≤ D) (h : F_Tape_endOfToken_7B k7 x2 I = some (rz)) (hQ : Q (.inl (some (.int rz))) (I, J, sm_rf t d)) (hk7 : ∀ (x2 : Int32), k7 x2 = some (rz) → sm_W sm_sh X (sm_C sm_sh X sm_P D) me_74 Q (7, [some (.ref 4), none, some (.int x2)], [], 0, 0) (I, J, sm_rf t d)) : sm_W sm_sh X (sm_C sm_sh X sm_P D) me_74 Q (7, [some (.ref 4), none, some (.int x2)], [], 0, 0) (I, J, sm_rf t d) := by
  unfold F_Tape_endOfToken_7B at h
  refine sm_W.run (sm_C_mono D) 4 (G := True) (fr' := (if decide ((I 4 5) ≤ x2) = true then 29 else 11, [some (.ref 4), none, some (.int x2)], [], 0, 0)) (M' := (I, J, sm_rf t d)) rfl trivial (sm_W.iteD h (fun hc h => ?_) (fun hc h => ?_))
  · refine sm_W.run (sm_C_mono D) 1 (G := True) (fr' := (30, [some (.ref 4), none, some (.int x2)], [.int x2], 0, 0)) (M' := (I, J, sm_rf t d)) rfl trivial ?_
    cases h
    exact sm_W.ret (sm_C_mono D) rfl hQ
  · refine sm_W.run (sm_C_mono D) 2 (G := True) (fr' := (13, [some (.ref 4), none, some (.int x2)], [.int x2, .ref 4], 0, 0)) (M' := (I, J, sm_rf t d)) rfl trivial ?_
    obtain ⟨r1, hc, h⟩ := sd_q1_go h
    refine sm_W.cal (sm_C_mono D) (y := 71) (as := [.ref 4, .int x2]) (fr' := (14, [some (.ref 4), none, some (.int x2)], [], 0, 0)) rfl (T_Tape_byteAt (by omega) hc ?_)
    show sm_W sm_sh X (sm_C sm_sh X sm_P D) me_74 Q (14, [some (.ref 4), none, some (.int x2)], [.int r1], 0, 0) (I, J, sm_rf t d)
    obtain ⟨r2, hc, h⟩ := sd_q1_go h
    refine sm_W.cal (sm_C_mono D) (y := 72) (as := [.int r1]) (fr' := (15, [some (.ref 4), none, some (.int x2)], [], 0, 0)) rfl (T_Tape_isLetter (by omega) hc ?_)
    show sm_W sm_sh X (sm_C sm_sh X sm_P D) me_74 Q (15, [some (.ref 4), none, some (.int x2)], [.int r2], 0, 0) (I, J, sm_rf t d)
    refine sm_W.run (sm_C_mono D) 1 (G := True) (fr' := (if decide (r2 = 0) = true then 29 else 16, [some (.ref 4), none, some (.int x2)], [], 0, 0)) (M' := (I, J, sm_rf t d)) rfl trivial (sm_W.iteD h (fun hc h => ?_) (fun hc h => ?_))
    · refine sm_W.run (sm_C_mono D) 1 (G := True) (fr' := (30, [some (.ref 4), none, some (.int x2)], [.int x2], 0, 0)) (M' := (I, J, sm_rf t d)) rfl trivial ?_
      cases h
      exact sm_W.ret (sm_C_mono D) rfl hQ
    · refine sm_W.run (sm_C_mono D) 2 (G := True) (fr' := (7, [some (.ref 4), none, some (.int (x2 + (1 : Int32)))], [], 0, 0)) (M' := (I, J, sm_rf t d)) rfl trivial ?_
      exact (hk7 _ h)
theorem G_Tape_endOfToken_7 {X : Nat × (Nat → Int32)} {t d D : Nat} {Q : sm_Q} {I : sm_MI} {J : sm_MJ} {rz : Int32}
    (hD : 1 ≤ D) (hQ : Q (.inl (some (.int rz))) (I, J, sm_rf t d))  : ∀ (n : Nat) (x2 : Int32), F_Tape_endOfToken_7 I n x2 = some (rz) → sm_W sm_sh X (sm_C sm_sh X sm_P D) me_74 Q (7, [some (.ref 4), none, some (.int x2)], [], 0, 0) (I, J, sm_rf t d) := by
  intro n
  induction n with
  | zero => intro x2 h; cases (show (none : Option (Int32)) = some (rz) from h)
  | succ n ih => intro x2 h; exact G_Tape_endOfToken_7B hD (show F_Tape_endOfToken_7B (F_Tape_endOfToken_7 I n) x2 I = some (rz) from h) hQ  ih
theorem G_Tape_endOfToken {X : Nat × (Nat → Int32)} {t d D : Nat} {Q : sm_Q} {I : sm_MI} {J : sm_MJ} {x1 : Int32} {rz : Int32}
    (hD : 1 ≤ D) (h : F_Tape_endOfToken x1 I = some (rz)) (hQ : Q (.inl (some (.int rz))) (I, J, sm_rf t d))  : sm_W sm_sh X (sm_C sm_sh X sm_P D) me_74 Q (0, [some (.ref 4), some (.int x1), none], [], 0, 0) (I, J, sm_rf t d) := by
  unfold F_Tape_endOfToken at h
  refine sm_W.run (sm_C_mono D) 4 (G := True) (fr' := (4, [some (.ref 4), some (.int x1), some (.int x1)], [.int x1, .ref 4], 0, 0)) (M' := (I, J, sm_rf t d)) rfl trivial ?_
  obtain ⟨r1, hc, h⟩ := sd_q1_go h
  refine sm_W.cal (sm_C_mono D) (y := 71) (as := [.ref 4, .int x1]) (fr' := (5, [some (.ref 4), some (.int x1), some (.int x1)], [], 0, 0)) rfl (T_Tape_byteAt (by omega) hc ?_)
  show sm_W sm_sh X (sm_C sm_sh X sm_P D) me_74 Q (5, [some (.ref 4), some (.int x1), some (.int x1)], [.int r1], 0, 0) (I, J, sm_rf t d)
  obtain ⟨r2, hc, h⟩ := sd_q1_go h
  refine sm_W.cal (sm_C_mono D) (y := 72) (as := [.int r1]) (fr' := (6, [some (.ref 4), some (.int x1), some (.int x1)], [], 0, 0)) rfl (T_Tape_isLetter (by omega) hc ?_)
  show sm_W sm_sh X (sm_C sm_sh X sm_P D) me_74 Q (6, [some (.ref 4), some (.int x1), some (.int x1)], [.int r2], 0, 0) (I, J, sm_rf t d)
  refine sm_W.run (sm_C_mono D) 1 (G := True) (fr' := (if decide (r2 = 0) = true then 18 else 7, [some (.ref 4), some (.int x1), some (.int x1)], [], 0, 0)) (M' := (I, J, sm_rf t d)) rfl trivial (sm_W.iteD h (fun hc h => ?_) (fun hc h => ?_))
  · exact sm_W.forget (L' := [some (.ref 4), none, some (.int x1)]) ⟨rfl, ⟨rfl, trivial⟩⟩ (G_Tape_endOfToken_18 hD hQ sd_fu _ h)
  · exact sm_W.forget (L' := [some (.ref 4), none, some (.int x1)]) ⟨rfl, ⟨rfl, trivial⟩⟩ (G_Tape_endOfToken_7 hD hQ sd_fu _ h)
theorem T_Tape_endOfToken {X : Nat × (Nat → Int32)} {t d D : Nat} {Q : sm_Q} {I : sm_MI} {J : sm_MJ} {x1 : Int32} {rz : Int32}
    (hD : 2 ≤ D) (h : F_Tape_endOfToken x1 I = some (rz)) (hQ : Q (.inl (some (.int rz))) (I, J, sm_rf t d)) : sm_C sm_sh X sm_P D 74 [.ref 4, .int x1] (I, J, sm_rf t d) Q := by
  cases D with
  | zero => omega
  | succ D => exact sm_C.of (me := me_74) (L := [some (.ref 4), some (.int x1), none]) rfl rfl rfl (sm_W.forget (L' := [some (.ref 4), some (.int x1), none]) ⟨rfl, ⟨rfl, trivial⟩⟩ (G_Tape_endOfToken (by omega) h hQ))
