/-! ===== printed by wip/gen/emit_parts.py: what the methods compute ===== -/
-- 54 Rules_result
noncomputable def F_Rules_result_13B (p0 : Nat) (k13 : Int32 → Int32 → Int32 → sm_MI → Option (Int32 × sm_MI)) (x1 : Int32) (x2 : Int32) (x3 : Int32) (I : sm_MI) : Option (Int32 × sm_MI) :=
  sd_gu (sm_in x1 4 = true) <|
  if (I (p0 + 3) (Int32.toNatClampNeg x1)) ≤ x3 then
    sd_gu (sm_in (0 : Int32) 64 = true) <|
    some ((I (p0 + 5) 0), I)
  else
    if (700 : Int32) ≤ x3 then
      sd_gu (sm_in (0 : Int32) 64 = true) <|
      some ((I (p0 + 5) 0), I)
    else
      sd_gu (sm_in x3 700 = true) <|
      sd_lt (I (p0 + 1) (Int32.toNatClampNeg x3)) fun a5 =>
      if (20000 : Int32) ≤ a5 then
        if ¬ a5 = (20002 : Int32) then
          if x2 ≤ (1 : Int32) then
            k13 x1 x2 (x3 + (1 : Int32)) I
          else
            sd_gu (sm_in ((x2 + (-1 : Int32)) - (1 : Int32)) 64 = true) <|
            sd_gu (sm_in (x2 + (-1 : Int32)) 64 = true) <|
            sd_q1 (F_Rules_apply a5 (I (p0 + 5) (Int32.toNatClampNeg ((x2 + (-1 : Int32)) - (1 : Int32)))) (I (p0 + 5) (Int32.toNatClampNeg (x2 + (-1 : Int32))))) fun r8 =>
            sd_gu (sm_in ((x2 + (-1 : Int32)) - (1 : Int32)) 64 = true) <|
            sd_lt (sd_up I (p0 + 5) (Int32.toNatClampNeg ((x2 + (-1 : Int32)) - (1 : Int32))) r8) fun I10 =>
            k13 x1 (x2 + (-1 : Int32)) (x3 + (1 : Int32)) I10
        else
          if x2 ≤ 0 then
            k13 x1 x2 (x3 + (1 : Int32)) I
          else
            sd_gu (sm_in (x2 - (1 : Int32)) 64 = true) <|
            if ¬ (I (p0 + 5) (Int32.toNatClampNeg (x2 - (1 : Int32)))) = 0 then
              sd_gu (sm_in (x2 - (1 : Int32)) 64 = true) <|
              sd_lt (sd_up I (p0 + 5) (Int32.toNatClampNeg (x2 - (1 : Int32))) (0 : Int32)) fun I13 =>
              k13 x1 x2 (x3 + (1 : Int32)) I13
            else
              sd_gu (sm_in (x2 - (1 : Int32)) 64 = true) <|
              sd_lt (sd_up I (p0 + 5) (Int32.toNatClampNeg (x2 - (1 : Int32))) (1 : Int32)) fun I15 =>
              k13 x1 x2 (x3 + (1 : Int32)) I15
      else
        if (64 : Int32) ≤ x2 then
          k13 x1 x2 (x3 + (1 : Int32)) I
        else
          sd_q1 (F_Rules_operand p0 a5 I) fun r16 =>
          sd_gu (sm_in x2 64 = true) <|
          sd_lt (sd_up I (p0 + 5) (Int32.toNatClampNeg x2) r16) fun I18 =>
          k13 x1 (x2 + (1 : Int32)) (x3 + (1 : Int32)) I18
noncomputable def F_Rules_result_13 (p0 : Nat) (n : Nat) : Int32 → Int32 → Int32 → sm_MI → Option (Int32 × sm_MI) :=
  sd_fix (fun k x1 x2 x3 I => F_Rules_result_13B p0 k x1 x2 x3 I) (fun _ _ _ _ => none) n
noncomputable def F_Rules_result (p0 : Nat) (x1 : Int32) (I : sm_MI) : Option (Int32 × sm_MI) :=
  sd_q1 (F_Rules_has p0 x1 I) fun r1 =>
  if ¬ r1 = 0 then
    sd_gu (sm_in x1 4 = true) <|
    sd_lt (I (p0 + 2) (Int32.toNatClampNeg x1)) fun a3 =>
    F_Rules_result_13 p0 sd_fu x1 (0 : Int32) a3 I
  else
    some ((0 : Int32), I)
theorem G_Rules_result_13B {X : Nat × (Nat → Int32)} {t d D : Nat} {Q : sm_Q} {I : sm_MI} {J : sm_MJ} {p0 : Nat} {k13 : Int32 → Int32 → Int32 → sm_MI → Option (Int32 × sm_MI)} {x1 : Int32} {x2 : Int32} {x3 : Int32} {rz : Int32} {Iz : sm_MI}
    (hD : 1 ≤ D) (hp : (p0 = 35) ∨ (p0 = 55)) (h : F_Rules_result_13B p0 k13 x1 x2 x3 I = some (rz, Iz)) (hQ : Q (.inl (some (.int rz))) (Iz, J, sm_rf t d)) (hk13 : ∀ (x1 : Int32) (x2 : Int32) (x3 : Int32) (I : sm_MI), k13 x1 x2 x3 I = some (rz, Iz) → sm_W sm_sh X (sm_C sm_sh X sm_P D) me_54 Q (13, [some (.ref p0), some (.int x1), some (.int x2), some (.int x3), none], [], 0, 0) (I, J, sm_rf t d)) : sm_W sm_sh X (sm_C sm_sh X sm_P D) me_54 Q (13, [some (.ref p0), some (.int x1), some (.int x2), some (.int x3), none], [], 0, 0) (I, J, sm_rf t d) := by
  unfold F_Rules_result_13B at h
  rcases hp with rfl | rfl
  · skip
    obtain ⟨g1, h⟩ := sd_gu_go h
    refine sm_W.run (sm_C_mono D) 6 (G := sm_in x1 4 = true ∧ True) (fr' := (if decide ((I (35 + 3) (Int32.toNatClampNeg x1)) ≤ x3) = true then 88 else 19, [some (.ref 35), some (.int x1), some (.int x2), some (.int x3), none], [], 0, 0)) (M' := (I, J, sm_rf t d)) rfl ⟨g1, trivial⟩ (sm_W.iteD h (fun hc h => ?_) (fun hc h => ?_))
    · obtain ⟨g2, h⟩ := sd_gu_go h
      refine sm_W.run (sm_C_mono D) 4 (G := sm_in (0 : Int32) 64 = true ∧ True) (fr' := (92, [some (.ref 35), some (.int x1), some (.int x2), some (.int x3), none], [.int (I (35 + 5) 0)], 0, 0)) (M' := (I, J, sm_rf t d)) rfl ⟨g2, trivial⟩ ?_
      cases h
      exact sm_W.ret (sm_C_mono D) rfl hQ
    · refine sm_W.run (sm_C_mono D) 3 (G := True) (fr' := (if decide ((700 : Int32) ≤ x3) = true then 88 else 22, [some (.ref 35), some (.int x1), some (.int x2), some (.int x3), none], [], 0, 0)) (M' := (I, J, sm_rf t d)) rfl trivial (sm_W.iteD h (fun hc h => ?_) (fun hc h => ?_))
      · obtain ⟨g3, h⟩ := sd_gu_go h
        refine sm_W.run (sm_C_mono D) 4 (G := sm_in (0 : Int32) 64 = true ∧ True) (fr' := (92, [some (.ref 35), some (.int x1), some (.int x2), some (.int x3), none], [.int (I (35 + 5) 0)], 0, 0)) (M' := (I, J, sm_rf t d)) rfl ⟨g3, trivial⟩ ?_
        cases h
        exact sm_W.ret (sm_C_mono D) rfl hQ
      · obtain ⟨g4, h⟩ := sd_gu_go h
        refine sm_W.runL (sm_C_mono D) 5 (G := sm_in x3 700 = true ∧ True) (e := (I (35 + 1) (Int32.toNatClampNeg x3))) (fr' := fun a5 => (27, [some (.ref 35), some (.int x1), some (.int x2), some (.int x3), some (.int a5)], [], 0, 0)) (M' := fun _ => (I, J, sm_rf t d)) rfl h ⟨g4, trivial⟩ (fun a5 h => ?_)
        refine sm_W.run (sm_C_mono D) 3 (G := True) (fr' := (if decide ((20000 : Int32) ≤ a5) = true then 42 else 30, [some (.ref 35), some (.int x1), some (.int x2), some (.int x3), some (.int a5)], [], 0, 0)) (M' := (I, J, sm_rf t d)) rfl trivial (sm_W.iteD h (fun hc h => ?_) (fun hc h => ?_))
        · refine sm_W.run (sm_C_mono D) 3 (G := True) (fr' := (if decide (¬ a5 = (20002 : Int32)) = true then 64 else 45, [some (.ref 35), some (.int x1), some (.int x2), some (.int x3), some (.int a5)], [], 0, 0)) (M' := (I, J, sm_rf t d)) rfl trivial (sm_W.iteD h (fun hc h => ?_) (fun hc h => ?_))
          · refine sm_W.run (sm_C_mono D) 3 (G := True) (fr' := (if decide (x2 ≤ (1 : Int32)) = true then 86 else 67, [some (.ref 35), some (.int x1), some (.int x2), some (.int x3), some (.int a5)], [], 0, 0)) (M' := (I, J, sm_rf t d)) rfl trivial (sm_W.iteD h (fun hc h => ?_) (fun hc h => ?_))
            · refine sm_W.run (sm_C_mono D) 2 (G := True) (fr' := (13, [some (.ref 35), some (.int x1), some (.int x2), some (.int (x3 + (1 : Int32))), some (.int a5)], [], 0, 0)) (M' := (I, J, sm_rf t d)) rfl trivial ?_
              exact sm_W.forget (L' := [some (.ref 35), some (.int x1), some (.int x2), some (.int (x3 + (1 : Int32))), none]) ⟨rfl, ⟨rfl, ⟨rfl, ⟨rfl, trivial⟩⟩⟩⟩ (hk13 _ _ _ _ h)
            · obtain ⟨g6, h⟩ := sd_gu_go h
              obtain ⟨g7, h⟩ := sd_gu_go h
              refine sm_W.run (sm_C_mono D) 17 (G := sm_in ((x2 + (-1 : Int32)) - (1 : Int32)) 64 = true ∧ sm_in (x2 + (-1 : Int32)) 64 = true ∧ True) (fr' := (84, [some (.ref 35), some (.int x1), some (.int (x2 + (-1 : Int32))), some (.int x3), some (.int a5)], [.int (I (35 + 5) (Int32.toNatClampNeg (x2 + (-1 : Int32)))), .int (I (35 + 5) (Int32.toNatClampNeg ((x2 + (-1 : Int32)) - (1 : Int32)))), .int a5, .int ((x2 + (-1 : Int32)) - (1 : Int32)), .ref (35 + 5)], 0, 0)) (M' := (I, J, sm_rf t d)) rfl ⟨g6, g7, trivial⟩ ?_
              obtain ⟨r8, hc, h⟩ := sd_q1_go h
              refine sm_W.cal (sm_C_mono D) (y := 56) (as := [.int a5, .int (I (35 + 5) (Int32.toNatClampNeg ((x2 + (-1 : Int32)) - (1 : Int32)))), .int (I (35 + 5) (Int32.toNatClampNeg (x2 + (-1 : Int32))))]) (fr' := (85, [some (.ref 35), some (.int x1), some (.int (x2 + (-1 : Int32))), some (.int x3), some (.int a5)], [.int ((x2 + (-1 : Int32)) - (1 : Int32)), .ref (35 + 5)], 0, 0)) rfl (T_Rules_apply (by omega) hc ?_)
              show sm_W sm_sh X (sm_C sm_sh X sm_P D) me_54 Q (85, [some (.ref 35), some (.int x1), some (.int (x2 + (-1 : Int32))), some (.int x3), some (.int a5)], [.int r8, .int ((x2 + (-1 : Int32)) - (1 : Int32)), .ref (35 + 5)], 0, 0) (I, J, sm_rf t d)
              obtain ⟨g9, h⟩ := sd_gu_go h
              refine sm_W.runL (sm_C_mono D) 1 (G := sm_in ((x2 + (-1 : Int32)) - (1 : Int32)) 64 = true ∧ True) (e := (sd_up I (35 + 5) (Int32.toNatClampNeg ((x2 + (-1 : Int32)) - (1 : Int32))) r8)) (fr' := fun _ => (86, [some (.ref 35), some (.int x1), some (.int (x2 + (-1 : Int32))), some (.int x3), some (.int a5)], [], 0, 0)) (M' := fun I10 => (I10, J, sm_rf t d)) rfl h ⟨g9, trivial⟩ (fun I10 h => ?_)
              refine sm_W.run (sm_C_mono D) 2 (G := True) (fr' := (13, [some (.ref 35), some (.int x1), some (.int (x2 + (-1 : Int32))), some (.int (x3 + (1 : Int32))), some (.int a5)], [], 0, 0)) (M' := (I10, J, sm_rf t d)) rfl trivial ?_
              exact sm_W.forget (L' := [some (.ref 35), some (.int x1), some (.int (x2 + (-1 : Int32))), some (.int (x3 + (1 : Int32))), none]) ⟨rfl, ⟨rfl, ⟨rfl, ⟨rfl, trivial⟩⟩⟩⟩ (hk13 _ _ _ _ h)
          · refine sm_W.run (sm_C_mono D) 2 (G := True) (fr' := (if decide (x2 ≤ 0) = true then 86 else 47, [some (.ref 35), some (.int x1), some (.int x2), some (.int x3), some (.int a5)], [], 0, 0)) (M' := (I, J, sm_rf t d)) rfl trivial (sm_W.iteD h (fun hc h => ?_) (fun hc h => ?_))
            · refine sm_W.run (sm_C_mono D) 2 (G := True) (fr' := (13, [some (.ref 35), some (.int x1), some (.int x2), some (.int (x3 + (1 : Int32))), some (.int a5)], [], 0, 0)) (M' := (I, J, sm_rf t d)) rfl trivial ?_
              exact sm_W.forget (L' := [some (.ref 35), some (.int x1), some (.int x2), some (.int (x3 + (1 : Int32))), none]) ⟨rfl, ⟨rfl, ⟨rfl, ⟨rfl, trivial⟩⟩⟩⟩ (hk13 _ _ _ _ h)
            · obtain ⟨g11, h⟩ := sd_gu_go h
              refine sm_W.run (sm_C_mono D) 12 (G := sm_in (x2 - (1 : Int32)) 64 = true ∧ True) (fr' := (if decide (¬ (I (35 + 5) (Int32.toNatClampNeg (x2 - (1 : Int32)))) = 0) = true then 61 else 59, [some (.ref 35), some (.int x1), some (.int x2), some (.int x3), some (.int a5)], [.int (x2 - (1 : Int32)), .ref (35 + 5)], 0, 0)) (M' := (I, J, sm_rf t d)) rfl ⟨g11, trivial⟩ (sm_W.iteD h (fun hc h => ?_) (fun hc h => ?_))
              · obtain ⟨g12, h⟩ := sd_gu_go h
                refine sm_W.runL (sm_C_mono D) 2 (G := sm_in (x2 - (1 : Int32)) 64 = true ∧ True) (e := (sd_up I (35 + 5) (Int32.toNatClampNeg (x2 - (1 : Int32))) (0 : Int32))) (fr' := fun _ => (63, [some (.ref 35), some (.int x1), some (.int x2), some (.int x3), some (.int a5)], [], 0, 0)) (M' := fun I13 => (I13, J, sm_rf t d)) rfl h ⟨g12, trivial⟩ (fun I13 h => ?_)
                refine sm_W.run (sm_C_mono D) 3 (G := True) (fr' := (13, [some (.ref 35), some (.int x1), some (.int x2), some (.int (x3 + (1 : Int32))), some (.int a5)], [], 0, 0)) (M' := (I13, J, sm_rf t d)) rfl trivial ?_
                exact sm_W.forget (L' := [some (.ref 35), some (.int x1), some (.int x2), some (.int (x3 + (1 : Int32))), none]) ⟨rfl, ⟨rfl, ⟨rfl, ⟨rfl, trivial⟩⟩⟩⟩ (hk13 _ _ _ _ h)
              · obtain ⟨g14, h⟩ := sd_gu_go h
                refine sm_W.runL (sm_C_mono D) 3 (G := sm_in (x2 - (1 : Int32)) 64 = true ∧ True) (e := (sd_up I (35 + 5) (Int32.toNatClampNeg (x2 - (1 : Int32))) (1 : Int32))) (fr' := fun _ => (63, [some (.ref 35), some (.int x1), some (.int x2), some (.int x3), some (.int a5)], [], 0, 0)) (M' := fun I15 => (I15, J, sm_rf t d)) rfl h ⟨g14, trivial⟩ (fun I15 h => ?_)
                refine sm_W.run (sm_C_mono D) 3 (G := True) (fr' := (13, [some (.ref 35), some (.int x1), some (.int x2), some (.int (x3 + (1 : Int32))), some (.int a5)], [], 0, 0)) (M' := (I15, J, sm_rf t d)) rfl trivial ?_
                exact sm_W.forget (L' := [some (.ref 35), some (.int x1), some (.int x2), some (.int (x3 + (1 : Int32))), none]) ⟨rfl, ⟨rfl, ⟨rfl, ⟨rfl, trivial⟩⟩⟩⟩ (hk13 _ _ _ _ h)
        · refine sm_W.run (sm_C_mono D) 3 (G := True) (fr' := (if decide ((64 : Int32) ≤ x2) = true then 86 else 33, [some (.ref 35), some (.int x1), some (.int x2), some (.int x3), some (.int a5)], [], 0, 0)) (M' := (I, J, sm_rf t d)) rfl trivial (sm_W.iteD h (fun hc h => ?_) (fun hc h => ?_))
          · refine sm_W.run (sm_C_mono D) 2 (G := True) (fr' := (13, [some (.ref 35), some (.int x1), some (.int x2), some (.int (x3 + (1 : Int32))), some (.int a5)], [], 0, 0)) (M' := (I, J, sm_rf t d)) rfl trivial ?_
            exact sm_W.forget (L' := [some (.ref 35), some (.int x1), some (.int x2), some (.int (x3 + (1 : Int32))), none]) ⟨rfl, ⟨rfl, ⟨rfl, ⟨rfl, trivial⟩⟩⟩⟩ (hk13 _ _ _ _ h)
          · refine sm_W.run (sm_C_mono D) 5 (G := True) (fr' := (38, [some (.ref 35), some (.int x1), some (.int x2), some (.int x3), some (.int a5)], [.int a5, .ref 35, .int x2, .ref (35 + 5)], 0, 0)) (M' := (I, J, sm_rf t d)) rfl trivial ?_
            obtain ⟨r16, hc, h⟩ := sd_q1_go h
            refine sm_W.cal (sm_C_mono D) (y := 55) (as := [.ref 35, .int a5]) (fr' := (39, [some (.ref 35), some (.int x1), some (.int x2), some (.int x3), some (.int a5)], [.int x2, .ref (35 + 5)], 0, 0)) rfl (T_Rules_operand (by omega) (by decide) hc ?_)
            show sm_W sm_sh X (sm_C sm_sh X sm_P D) me_54 Q (39, [some (.ref 35), some (.int x1), some (.int x2), some (.int x3), some (.int a5)], [.int r16, .int x2, .ref (35 + 5)], 0, 0) (I, J, sm_rf t d)
            obtain ⟨g17, h⟩ := sd_gu_go h
            refine sm_W.runL (sm_C_mono D) 1 (G := sm_in x2 64 = true ∧ True) (e := (sd_up I (35 + 5) (Int32.toNatClampNeg x2) r16)) (fr' := fun _ => (40, [some (.ref 35), some (.int x1), some (.int x2), some (.int x3), some (.int a5)], [], 0, 0)) (M' := fun I18 => (I18, J, sm_rf t d)) rfl h ⟨g17, trivial⟩ (fun I18 h => ?_)
            refine sm_W.run (sm_C_mono D) 4 (G := True) (fr' := (13, [some (.ref 35), some (.int x1), some (.int (x2 + (1 : Int32))), some (.int (x3 + (1 : Int32))), some (.int a5)], [], 0, 0)) (M' := (I18, J, sm_rf t d)) rfl trivial ?_
            exact sm_W.forget (L' := [some (.ref 35), some (.int x1), some (.int (x2 + (1 : Int32))), some (.int (x3 + (1 : Int32))), none]) ⟨rfl, ⟨rfl, ⟨rfl, ⟨rfl, trivial⟩⟩⟩⟩ (hk13 _ _ _ _ h)
  · skip
    obtain ⟨g1, h⟩ := sd_gu_go h
    refine sm_W.run (sm_C_mono D) 6 (G := sm_in x1 4 = true ∧ True) (fr' := (if decide ((I (55 + 3) (Int32.toNatClampNeg x1)) ≤ x3) = true then 88 else 19, [some (.ref 55), some (.int x1), some (.int x2), some (.int x3), none], [], 0, 0)) (M' := (I, J, sm_rf t d)) rfl ⟨g1, trivial⟩ (sm_W.iteD h (fun hc h => ?_) (fun hc h => ?_))
    · obtain ⟨g2, h⟩ := sd_gu_go h
      refine sm_W.run (sm_C_mono D) 4 (G := sm_in (0 : Int32) 64 = true ∧ True) (fr' := (92, [some (.ref 55), some (.int x1), some (.int x2), some (.int x3), none], [.int (I (55 + 5) 0)], 0, 0)) (M' := (I, J, sm_rf t d)) rfl ⟨g2, trivial⟩ ?_
      cases h
      exact sm_W.ret (sm_C_mono D) rfl hQ
    · refine sm_W.run (sm_C_mono D) 3 (G := True) (fr' := (if decide ((700 : Int32) ≤ x3) = true then 88 else 22, [some (.ref 55), some (.int x1), some (.int x2), some (.int x3), none], [], 0, 0)) (M' := (I, J, sm_rf t d)) rfl trivial (sm_W.iteD h (fun hc h => ?_) (fun hc h => ?_))
      · obtain ⟨g3, h⟩ := sd_gu_go h
        refine sm_W.run (sm_C_mono D) 4 (G := sm_in (0 : Int32) 64 = true ∧ True) (fr' := (92, [some (.ref 55), some (.int x1), some (.int x2), some (.int x3), none], [.int (I (55 + 5) 0)], 0, 0)) (M' := (I, J, sm_rf t d)) rfl ⟨g3, trivial⟩ ?_
        cases h
        exact sm_W.ret (sm_C_mono D) rfl hQ
      · obtain ⟨g4, h⟩ := sd_gu_go h
        refine sm_W.runL (sm_C_mono D) 5 (G := sm_in x3 700 = true ∧ True) (e := (I (55 + 1) (Int32.toNatClampNeg x3))) (fr' := fun a5 => (27, [some (.ref 55), some (.int x1), some (.int x2), some (.int x3), some (.int a5)], [], 0, 0)) (M' := fun _ => (I, J, sm_rf t d)) rfl h ⟨g4, trivial⟩ (fun a5 h => ?_)
        refine sm_W.run (sm_C_mono D) 3 (G := True) (fr' := (if decide ((20000 : Int32) ≤ a5) = true then 42 else 30, [some (.ref 55), some (.int x1), some (.int x2), some (.int x3), some (.int a5)], [], 0, 0)) (M' := (I, J, sm_rf t d)) rfl trivial (sm_W.iteD h (fun hc h => ?_) (fun hc h => ?_))
        · refine sm_W.run (sm_C_mono D) 3 (G := True) (fr' := (if decide (¬ a5 = (20002 : Int32)) = true then 64 else 45, [some (.ref 55), some (.int x1), some (.int x2), some (.int x3), some (.int a5)], [], 0, 0)) (M' := (I, J, sm_rf t d)) rfl trivial (sm_W.iteD h (fun hc h => ?_) (fun hc h => ?_))
          · refine sm_W.run (sm_C_mono D) 3 (G := True) (fr' := (if decide (x2 ≤ (1 : Int32)) = true then 86 else 67, [some (.ref 55), some (.int x1), some (.int x2), some (.int x3), some (.int a5)], [], 0, 0)) (M' := (I, J, sm_rf t d)) rfl trivial (sm_W.iteD h (fun hc h => ?_) (fun hc h => ?_))
            · refine sm_W.run (sm_C_mono D) 2 (G := True) (fr' := (13, [some (.ref 55), some (.int x1), some (.int x2), some (.int (x3 + (1 : Int32))), some (.int a5)], [], 0, 0)) (M' := (I, J, sm_rf t d)) rfl trivial ?_
              exact sm_W.forget (L' := [some (.ref 55), some (.int x1), some (.int x2), some (.int (x3 + (1 : Int32))), none]) ⟨rfl, ⟨rfl, ⟨rfl, ⟨rfl, trivial⟩⟩⟩⟩ (hk13 _ _ _ _ h)
            · obtain ⟨g6, h⟩ := sd_gu_go h
              obtain ⟨g7, h⟩ := sd_gu_go h
              refine sm_W.run (sm_C_mono D) 17 (G := sm_in ((x2 + (-1 : Int32)) - (1 : Int32)) 64 = true ∧ sm_in (x2 + (-1 : Int32)) 64 = true ∧ True) (fr' := (84, [some (.ref 55), some (.int x1), some (.int (x2 + (-1 : Int32))), some (.int x3), some (.int a5)], [.int (I (55 + 5) (Int32.toNatClampNeg (x2 + (-1 : Int32)))), .int (I (55 + 5) (Int32.toNatClampNeg ((x2 + (-1 : Int32)) - (1 : Int32)))), .int a5, .int ((x2 + (-1 : Int32)) - (1 : Int32)), .ref (55 + 5)], 0, 0)) (M' := (I, J, sm_rf t d)) rfl ⟨g6, g7, trivial⟩ ?_
              obtain ⟨r8, hc, h⟩ := sd_q1_go h
              refine sm_W.cal (sm_C_mono D) (y := 56) (as := [.int a5, .int (I (55 + 5) (Int32.toNatClampNeg ((x2 + (-1 : Int32)) - (1 : Int32)))), .int (I (55 + 5) (Int32.toNatClampNeg (x2 + (-1 : Int32))))]) (fr' := (85, [some (.ref 55), some (.int x1), some (.int (x2 + (-1 : Int32))), some (.int x3), some (.int a5)], [.int ((x2 + (-1 : Int32)) - (1 : Int32)), .ref (55 + 5)], 0, 0)) rfl (T_Rules_apply (by omega) hc ?_)
              show sm_W sm_sh X (sm_C sm_sh X sm_P D) me_54 Q (85, [some (.ref 55), some (.int x1), some (.int (x2 + (-1 : Int32))), some (.int x3), some (.int a5)], [.int r8, .int ((x2 + (-1 : Int32)) - (1 : Int32)), .ref (55 + 5)], 0, 0) (I, J, sm_rf t d)
              obtain ⟨g9, h⟩ := sd_gu_go h
              refine sm_W.runL (sm_C_mono D) 1 (G := sm_in ((x2 + (-1 : Int32)) - (1 : Int32)) 64 = true ∧ True) (e := (sd_up I (55 + 5) (Int32.toNatClampNeg ((x2 + (-1 : Int32)) - (1 : Int32))) r8)) (fr' := fun _ => (86, [some (.ref 55), some (.int x1), some (.int (x2 + (-1 : Int32))), some (.int x3), some (.int a5)], [], 0, 0)) (M' := fun I10 => (I10, J, sm_rf t d)) rfl h ⟨g9, trivial⟩ (fun I10 h => ?_)
              refine sm_W.run (sm_C_mono D) 2 (G := True) (fr' := (13, [some (.ref 55), some (.int x1), some (.int (x2 + (-1 : Int32))), some (.int (x3 + (1 : Int32))), some (.int a5)], [], 0, 0)) (M' := (I10, J, sm_rf t d)) rfl trivial ?_
              exact sm_W.forget (L' := [some (.ref 55), some (.int x1), some (.int (x2 + (-1 : Int32))), some (.int (x3 + (1 : Int32))), none]) ⟨rfl, ⟨rfl, ⟨rfl, ⟨rfl, trivial⟩⟩⟩⟩ (hk13 _ _ _ _ h)
          · refine sm_W.run (sm_C_mono D) 2 (G := True) (fr' := (if decide (x2 ≤ 0) = true then 86 else 47, [some (.ref 55), some (.int x1), some (.int x2), some (.int x3), some (.int a5)], [], 0, 0)) (M' := (I, J, sm_rf t d)) rfl trivial (sm_W.iteD h (fun hc h => ?_) (fun hc h => ?_))
            · refine sm_W.run (sm_C_mono D) 2 (G := True) (fr' := (13, [some (.ref 55), some (.int x1), some (.int x2), some (.int (x3 + (1 : Int32))), some (.int a5)], [], 0, 0)) (M' := (I, J, sm_rf t d)) rfl trivial ?_
              exact sm_W.forget (L' := [some (.ref 55), some (.int x1), some (.int x2), some (.int (x3 + (1 : Int32))), none]) ⟨rfl, ⟨rfl, ⟨rfl, ⟨rfl, trivial⟩⟩⟩⟩ (hk13 _ _ _ _ h)
            · obtain ⟨g11, h⟩ := sd_gu_go h
              refine sm_W.run (sm_C_mono D) 12 (G := sm_in (x2 - (1 : Int32)) 64 = true ∧ True) (fr' := (if decide (¬ (I (55 + 5) (Int32.toNatClampNeg (x2 - (1 : Int32)))) = 0) = true then 61 else 59, [some (.ref 55), some (.int x1), some (.int x2), some (.int x3), some (.int a5)], [.int (x2 - (1 : Int32)), .ref (55 + 5)], 0, 0)) (M' := (I, J, sm_rf t d)) rfl ⟨g11, trivial⟩ (sm_W.iteD h (fun hc h => ?_) (fun hc h => ?_))
              · obtain ⟨g12, h⟩ := sd_gu_go h
                refine sm_W.runL (sm_C_mono D) 2 (G := sm_in (x2 - (1 : Int32)) 64 = true ∧ True) (e := (sd_up I (55 + 5) (Int32.toNatClampNeg (x2 - (1 : Int32))) (0 : Int32))) (fr' := fun _ => (63, [some (.ref 55), some (.int x1), some (.int x2), some (.int x3), some (.int a5)], [], 0, 0)) (M' := fun I13 => (I13, J, sm_rf t d)) rfl h ⟨g12, trivial⟩ (fun I13 h => ?_)
                refine sm_W.run (sm_C_mono D) 3 (G := True) (fr' := (13, [some (.ref 55), some (.int x1), some (.int x2), some (.int (x3 + (1 : Int32))), some (.int a5)], [], 0, 0)) (M' := (I13, J, sm_rf t d)) rfl trivial ?_
                exact sm_W.forget (L' := [some (.ref 55), some (.int x1), some (.int x2), some (.int (x3 + (1 : Int32))), none]) ⟨rfl, ⟨rfl, ⟨rfl, ⟨rfl, trivial⟩⟩⟩⟩ (hk13 _ _ _ _ h)
              · obtain ⟨g14, h⟩ := sd_gu_go h
                refine sm_W.runL (sm_C_mono D) 3 (G := sm_in (x2 - (1 : Int32)) 64 = true ∧ True) (e := (sd_up I (55 + 5) (Int32.toNatClampNeg (x2 - (1 : Int32))) (1 : Int32))) (fr' := fun _ => (63, [some (.ref 55), some (.int x1), some (.int x2), some (.int x3), some (.int a5)], [], 0, 0)) (M' := fun I15 => (I15, J, sm_rf t d)) rfl h ⟨g14, trivial⟩ (fun I15 h => ?_)
                refine sm_W.run (sm_C_mono D) 3 (G := True) (fr' := (13, [some (.ref 55), some (.int x1), some (.int x2), some (.int (x3 + (1 : Int32))), some (.int a5)], [], 0, 0)) (M' := (I15, J, sm_rf t d)) rfl trivial ?_
                exact sm_W.forget (L' := [some (.ref 55), some (.int x1), some (.int x2), some (.int (x3 + (1 : Int32))), none]) ⟨rfl, ⟨rfl, ⟨rfl, ⟨rfl, trivial⟩⟩⟩⟩ (hk13 _ _ _ _ h)
        · refine sm_W.run (sm_C_mono D) 3 (G := True) (fr' := (if decide ((64 : Int32) ≤ x2) = true then 86 else 33, [some (.ref 55), some (.int x1), some (.int x2), some (.int x3), some (.int a5)], [], 0, 0)) (M' := (I, J, sm_rf t d)) rfl trivial (sm_W.iteD h (fun hc h => ?_) (fun hc h => ?_))
          · refine sm_W.run (sm_C_mono D) 2 (G := True) (fr' := (13, [some (.ref 55), some (.int x1), some (.int x2), some (.int (x3 + (1 : Int32))), some (.int a5)], [], 0, 0)) (M' := (I, J, sm_rf t d)) rfl trivial ?_
            exact sm_W.forget (L' := [some (.ref 55), some (.int x1), some (.int x2), some (.int (x3 + (1 : Int32))), none]) ⟨rfl, ⟨rfl, ⟨rfl, ⟨rfl, trivial⟩⟩⟩⟩ (hk13 _ _ _ _ h)
          · refine sm_W.run (sm_C_mono D) 5 (G := True) (fr' := (38, [some (.ref 55), some (.int x1), some (.int x2), some (.int x3), some (.int a5)], [.int a5, .ref 55, .int x2, .ref (55 + 5)], 0, 0)) (M' := (I, J, sm_rf t d)) rfl trivial ?_
            obtain ⟨r16, hc, h⟩ := sd_q1_go h
            refine sm_W.cal (sm_C_mono D) (y := 55) (as := [.ref 55, .int a5]) (fr' := (39, [some (.ref 55), some (.int x1), some (.int x2), some (.int x3), some (.int a5)], [.int x2, .ref (55 + 5)], 0, 0)) rfl (T_Rules_operand (by omega) (by decide) hc ?_)
            show sm_W sm_sh X (sm_C sm_sh X sm_P D) me_54 Q (39, [some (.ref 55), some (.int x1), some (.int x2), some (.int x3), some (.int a5)], [.int r16, .int x2, .ref (55 + 5)], 0, 0) (I, J, sm_rf t d)
            obtain ⟨g17, h⟩ := sd_gu_go h
            refine sm_W.runL (sm_C_mono D) 1 (G := sm_in x2 64 = true ∧ True) (e := (sd_up I (55 + 5) (Int32.toNatClampNeg x2) r16)) (fr' := fun _ => (40, [some (.ref 55), some (.int x1), some (.int x2), some (.int x3), some (.int a5)], [], 0, 0)) (M' := fun I18 => (I18, J, sm_rf t d)) rfl h ⟨g17, trivial⟩ (fun I18 h => ?_)
            refine sm_W.run (sm_C_mono D) 4 (G := True) (fr' := (13, [some (.ref 55), some (.int x1), some (.int (x2 + (1 : Int32))), some (.int (x3 + (1 : Int32))), some (.int a5)], [], 0, 0)) (M' := (I18, J, sm_rf t d)) rfl trivial ?_
            exact sm_W.forget (L' := [some (.ref 55), some (.int x1), some (.int (x2 + (1 : Int32))), some (.int (x3 + (1 : Int32))), none]) ⟨rfl, ⟨rfl, ⟨rfl, ⟨rfl, trivial⟩⟩⟩⟩ (hk13 _ _ _ _ h)
theorem G_Rules_result_13 {X : Nat × (Nat → Int32)} {t d D : Nat} {Q : sm_Q} {J : sm_MJ} {p0 : Nat} {rz : Int32} {Iz : sm_MI}
    (hD : 1 ≤ D) (hp : (p0 = 35) ∨ (p0 = 55)) (hQ : Q (.inl (some (.int rz))) (Iz, J, sm_rf t d))  : ∀ (n : Nat) (x1 : Int32) (x2 : Int32) (x3 : Int32) (I : sm_MI), F_Rules_result_13 p0 n x1 x2 x3 I = some (rz, Iz) → sm_W sm_sh X (sm_C sm_sh X sm_P D) me_54 Q (13, [some (.ref p0), some (.int x1), some (.int x2), some (.int x3), none], [], 0, 0) (I, J, sm_rf t d) := by
  intro n
  induction n with
  | zero => intro x1 x2 x3 I h; cases (show (none : Option (Int32 × sm_MI)) = some (rz, Iz) from h)
  | succ n ih => intro x1 x2 x3 I h; exact G_Rules_result_13B hD hp (show F_Rules_result_13B p0 (F_Rules_result_13 p0 n) x1 x2 x3 I = some (rz, Iz) from h) hQ  ih
theorem G_Rules_result {X : Nat × (Nat → Int32)} {t d D : Nat} {Q : sm_Q} {I : sm_MI} {J : sm_MJ} {p0 : Nat} {x1 : Int32} {rz : Int32} {Iz : sm_MI}
    (hD : 1 ≤ D) (hp : (p0 = 35) ∨ (p0 = 55)) (h : F_Rules_result p0 x1 I = some (rz, Iz)) (hQ : Q (.inl (some (.int rz))) (Iz, J, sm_rf t d))  : sm_W sm_sh X (sm_C sm_sh X sm_P D) me_54 Q (0, [some (.ref p0), some (.int x1), none, none, none], [], 0, 0) (I, J, sm_rf t d) := by
  unfold F_Rules_result at h
  rcases hp with rfl | rfl
  · skip
    refine sm_W.run (sm_C_mono D) 2 (G := True) (fr' := (2, [some (.ref 35), some (.int x1), none, none, none], [.int x1, .ref 35], 0, 0)) (M' := (I, J, sm_rf t d)) rfl trivial ?_
    obtain ⟨r1, hc, h⟩ := sd_q1_go h
    refine sm_W.cal (sm_C_mono D) (y := 53) (as := [.ref 35, .int x1]) (fr' := (3, [some (.ref 35), some (.int x1), none, none, none], [], 0, 0)) rfl (T_Rules_has (by omega) (by decide) hc ?_)
    show sm_W sm_sh X (sm_C sm_sh X sm_P D) me_54 Q (3, [some (.ref 35), some (.int x1), none, none, none], [.int r1], 0, 0) (I, J, sm_rf t d)
    refine sm_W.run (sm_C_mono D) 1 (G := True) (fr' := (if decide (¬ r1 = 0) = true then 6 else 4, [some (.ref 35), some (.int x1), none, none, none], [], 0, 0)) (M' := (I, J, sm_rf t d)) rfl trivial (sm_W.iteD h (fun hc h => ?_) (fun hc h => ?_))
    · obtain ⟨g2, h⟩ := sd_gu_go h
      refine sm_W.runL (sm_C_mono D) 7 (G := sm_in x1 4 = true ∧ True) (e := (I (35 + 2) (Int32.toNatClampNeg x1))) (fr' := fun a3 => (13, [some (.ref 35), some (.int x1), some (.int (0 : Int32)), some (.int a3), none], [], 0, 0)) (M' := fun _ => (I, J, sm_rf t d)) rfl h ⟨g2, trivial⟩ (fun a3 h => ?_)
      exact (G_Rules_result_13 hD (by decide) hQ sd_fu _ _ _ _ h)
    · refine sm_W.run (sm_C_mono D) 1 (G := True) (fr' := (5, [some (.ref 35), some (.int x1), none, none, none], [.int (0 : Int32)], 0, 0)) (M' := (I, J, sm_rf t d)) rfl trivial ?_
      cases h
      exact sm_W.ret (sm_C_mono D) rfl hQ
  · skip
    refine sm_W.run (sm_C_mono D) 2 (G := True) (fr' := (2, [some (.ref 55), some (.int x1), none, none, none], [.int x1, .ref 55], 0, 0)) (M' := (I, J, sm_rf t d)) rfl trivial ?_
    obtain ⟨r1, hc, h⟩ := sd_q1_go h
    refine sm_W.cal (sm_C_mono D) (y := 53) (as := [.ref 55, .int x1]) (fr' := (3, [some (.ref 55), some (.int x1), none, none, none], [], 0, 0)) rfl (T_Rules_has (by omega) (by decide) hc ?_)
    show sm_W sm_sh X (sm_C sm_sh X sm_P D) me_54 Q (3, [some (.ref 55), some (.int x1), none, none, none], [.int r1], 0, 0) (I, J, sm_rf t d)
    refine sm_W.run (sm_C_mono D) 1 (G := True) (fr' := (if decide (¬ r1 = 0) = true then 6 else 4, [some (.ref 55), some (.int x1), none, none, none], [], 0, 0)) (M' := (I, J, sm_rf t d)) rfl trivial (sm_W.iteD h (fun hc h => ?_) (fun hc h => ?_))
    · obtain ⟨g2, h⟩ := sd_gu_go h
      refine sm_W.runL (sm_C_mono D) 7 (G := sm_in x1 4 = true ∧ True) (e := (I (55 + 2) (Int32.toNatClampNeg x1))) (fr' := fun a3 => (13, [some (.ref 55), some (.int x1), some (.int (0 : Int32)), some (.int a3), none], [], 0, 0)) (M' := fun _ => (I, J, sm_rf t d)) rfl h ⟨g2, trivial⟩ (fun a3 h => ?_)
      exact (G_Rules_result_13 hD (by decide) hQ sd_fu _ _ _ _ h)
    · refine sm_W.run (sm_C_mono D) 1 (G := True) (fr' := (5, [some (.ref 55), some (.int x1), none, none, none], [.int (0 : Int32)], 0, 0)) (M' := (I, J, sm_rf t d)) rfl trivial ?_
      cases h
      exact sm_W.ret (sm_C_mono D) rfl hQ
theorem T_Rules_result {X : Nat × (Nat → Int32)} {t d D : Nat} {Q : sm_Q} {I : sm_MI} {J : sm_MJ} {p0 : Nat} {x1 : Int32} {rz : Int32} {Iz : sm_MI}
    (hD : 2 ≤ D) (hp : (p0 = 35) ∨ (p0 = 55)) (h : F_Rules_result p0 x1 I = some (rz, Iz)) (hQ : Q (.inl (some (.int rz))) (Iz, J, sm_rf t d)) : sm_C sm_sh X sm_P D 54 [.ref p0, .int x1] (I, J, sm_rf t d) Q := by
  cases D with
  | zero => omega
  | succ D => exact sm_C.of (me := me_54) (L := [some (.ref p0), some (.int x1), none, none, none]) rfl rfl rfl (sm_W.forget (L' := [some (.ref p0), some (.int x1), none, none, none]) ⟨rfl, ⟨rfl, trivial⟩⟩ (G_Rules_result (by omega) hp h hQ))
-- 61 State_howIs
noncomputable def F_State_howIs (p0 : Nat) (x1 : Int32) (I : sm_MI) : Option (Int32) :=
  if (((I p0 0) >>> (x1 &&& 31)) &&& (1 : Int32)) = 0 then
    if (((I p0 1) >>> (x1 &&& 31)) &&& (1 : Int32)) = 0 then
      some ((2 : Int32))
    else
      some ((1 : Int32))
  else
    some ((0 : Int32))
theorem G_State_howIs {X : Nat × (Nat → Int32)} {t d D : Nat} {Q : sm_Q} {I : sm_MI} {J : sm_MJ} {p0 : Nat} {x1 : Int32} {rz : Int32}
    (hD : 0 ≤ D) (hp : (p0 = 9) ∨ (p0 = 20)) (h : F_State_howIs p0 x1 I = some (rz)) (hQ : Q (.inl (some (.int rz))) (I, J, sm_rf t d))  : sm_W sm_sh X (sm_C sm_sh X sm_P D) me_61 Q (0, [some (.ref p0), some (.int x1)], [], 0, 0) (I, J, sm_rf t d) := by
  unfold F_State_howIs at h
  rcases hp with rfl | rfl
  · skip
    refine sm_W.run (sm_C_mono D) 7 (G := True) (fr' := (if decide ((((I 9 0) >>> (x1 &&& 31)) &&& (1 : Int32)) = 0) = true then 9 else 7, [some (.ref 9), some (.int x1)], [], 0, 0)) (M' := (I, J, sm_rf t d)) rfl trivial (sm_W.iteD h (fun hc h => ?_) (fun hc h => ?_))
    · refine sm_W.run (sm_C_mono D) 7 (G := True) (fr' := (if decide ((((I 9 1) >>> (x1 &&& 31)) &&& (1 : Int32)) = 0) = true then 18 else 16, [some (.ref 9), some (.int x1)], [], 0, 0)) (M' := (I, J, sm_rf t d)) rfl trivial (sm_W.iteD h (fun hc h => ?_) (fun hc h => ?_))
      · refine sm_W.run (sm_C_mono D) 1 (G := True) (fr' := (19, [some (.ref 9), some (.int x1)], [.int (2 : Int32)], 0, 0)) (M' := (I, J, sm_rf t d)) rfl trivial ?_
        cases h
        exact sm_W.ret (sm_C_mono D) rfl hQ
      · refine sm_W.run (sm_C_mono D) 2 (G := True) (fr' := (19, [some (.ref 9), some (.int x1)], [.int (1 : Int32)], 0, 0)) (M' := (I, J, sm_rf t d)) rfl trivial ?_
        cases h
        exact sm_W.ret (sm_C_mono D) rfl hQ
    · refine sm_W.run (sm_C_mono D) 1 (G := True) (fr' := (8, [some (.ref 9), some (.int x1)], [.int (0 : Int32)], 0, 0)) (M' := (I, J, sm_rf t d)) rfl trivial ?_
      cases h
      exact sm_W.ret (sm_C_mono D) rfl hQ
  · skip
    refine sm_W.run (sm_C_mono D) 7 (G := True) (fr' := (if decide ((((I 20 0) >>> (x1 &&& 31)) &&& (1 : Int32)) = 0) = true then 9 else 7, [some (.ref 20), some (.int x1)], [], 0, 0)) (M' := (I, J, sm_rf t d)) rfl trivial (sm_W.iteD h (fun hc h => ?_) (fun hc h => ?_))
    · refine sm_W.run (sm_C_mono D) 7 (G := True) (fr' := (if decide ((((I 20 1) >>> (x1 &&& 31)) &&& (1 : Int32)) = 0) = true then 18 else 16, [some (.ref 20), some (.int x1)], [], 0, 0)) (M' := (I, J, sm_rf t d)) rfl trivial (sm_W.iteD h (fun hc h => ?_) (fun hc h => ?_))
      · refine sm_W.run (sm_C_mono D) 1 (G := True) (fr' := (19, [some (.ref 20), some (.int x1)], [.int (2 : Int32)], 0, 0)) (M' := (I, J, sm_rf t d)) rfl trivial ?_
        cases h
        exact sm_W.ret (sm_C_mono D) rfl hQ
      · refine sm_W.run (sm_C_mono D) 2 (G := True) (fr' := (19, [some (.ref 20), some (.int x1)], [.int (1 : Int32)], 0, 0)) (M' := (I, J, sm_rf t d)) rfl trivial ?_
        cases h
        exact sm_W.ret (sm_C_mono D) rfl hQ
    · refine sm_W.run (sm_C_mono D) 1 (G := True) (fr' := (8, [some (.ref 20), some (.int x1)], [.int (0 : Int32)], 0, 0)) (M' := (I, J, sm_rf t d)) rfl trivial ?_
      cases h
      exact sm_W.ret (sm_C_mono D) rfl hQ
theorem T_State_howIs {X : Nat × (Nat → Int32)} {t d D : Nat} {Q : sm_Q} {I : sm_MI} {J : sm_MJ} {p0 : Nat} {x1 : Int32} {rz : Int32}
    (hD : 1 ≤ D) (hp : (p0 = 9) ∨ (p0 = 20)) (h : F_State_howIs p0 x1 I = some (rz)) (hQ : Q (.inl (some (.int rz))) (I, J, sm_rf t d)) : sm_C sm_sh X sm_P D 61 [.ref p0, .int x1] (I, J, sm_rf t d) Q := by
  cases D with
  | zero => omega
  | succ D => exact sm_C.of (me := me_61) (L := [some (.ref p0), some (.int x1)]) rfl rfl rfl (sm_W.forget (L' := [some (.ref p0), some (.int x1)]) ⟨rfl, ⟨rfl, trivial⟩⟩ (G_State_howIs (by omega) hp h hQ))
-- 62 State_fell
noncomputable def F_State_fell (p0 : Nat) (x1 : Int32) (I : sm_MI) : Option (sm_MI) :=
  sd_lt (sd_up I p0 0 ((I p0 0) &&& (x1 ^^^ (-1 : Int32)))) fun I1 =>
  sd_lt (sd_up I1 p0 2 ((I1 p0 2) ||| x1)) fun I2 =>
  some (I2)
theorem G_State_fell {X : Nat × (Nat → Int32)} {t d D : Nat} {Q : sm_Q} {I : sm_MI} {J : sm_MJ} {p0 : Nat} {x1 : Int32} {Iz : sm_MI}
    (hD : 0 ≤ D) (hp : (p0 = 9) ∨ (p0 = 20)) (h : F_State_fell p0 x1 I = some (Iz)) (hQ : Q (.inl none) (Iz, J, sm_rf t d))  : sm_W sm_sh X (sm_C sm_sh X sm_P D) me_62 Q (0, [some (.ref p0), some (.int x1)], [], 0, 0) (I, J, sm_rf t d) := by
  unfold F_State_fell at h
  rcases hp with rfl | rfl
  · skip
    refine sm_W.runL (sm_C_mono D) 8 (G := True) (e := (sd_up I 9 0 ((I 9 0) &&& (x1 ^^^ (-1 : Int32))))) (fr' := fun _ => (8, [some (.ref 9), some (.int x1)], [], 0, 0)) (M' := fun I1 => (I1, J, sm_rf t d)) rfl h trivial (fun I1 h => ?_)
    refine sm_W.runL (sm_C_mono D) 6 (G := True) (e := (sd_up I1 9 2 ((I1 9 2) ||| x1))) (fr' := fun _ => (14, [some (.ref 9), some (.int x1)], [], 0, 0)) (M' := fun I2 => (I2, J, sm_rf t d)) rfl h trivial (fun I2 h => ?_)
    cases h
    exact sm_W.ret (sm_C_mono D) rfl hQ
  · skip
    refine sm_W.runL (sm_C_mono D) 8 (G := True) (e := (sd_up I 20 0 ((I 20 0) &&& (x1 ^^^ (-1 : Int32))))) (fr' := fun _ => (8, [some (.ref 20), some (.int x1)], [], 0, 0)) (M' := fun I1 => (I1, J, sm_rf t d)) rfl h trivial (fun I1 h => ?_)
    refine sm_W.runL (sm_C_mono D) 6 (G := True) (e := (sd_up I1 20 2 ((I1 20 2) ||| x1))) (fr' := fun _ => (14, [some (.ref 20), some (.int x1)], [], 0, 0)) (M' := fun I2 => (I2, J, sm_rf t d)) rfl h trivial (fun I2 h => ?_)
    cases h
    exact sm_W.ret (sm_C_mono D) rfl hQ
theorem T_State_fell {X : Nat × (Nat → Int32)} {t d D : Nat} {Q : sm_Q} {I : sm_MI} {J : sm_MJ} {p0 : Nat} {x1 : Int32} {Iz : sm_MI}
    (hD : 1 ≤ D) (hp : (p0 = 9) ∨ (p0 = 20)) (h : F_State_fell p0 x1 I = some (Iz)) (hQ : Q (.inl none) (Iz, J, sm_rf t d)) : sm_C sm_sh X sm_P D 62 [.ref p0, .int x1] (I, J, sm_rf t d) Q := by
  cases D with
  | zero => omega
  | succ D => exact sm_C.of (me := me_62) (L := [some (.ref p0), some (.int x1)]) rfl rfl rfl (sm_W.forget (L' := [some (.ref p0), some (.int x1)]) ⟨rfl, ⟨rfl, trivial⟩⟩ (G_State_fell (by omega) hp h hQ))
-- 63 State_seize
noncomputable def F_State_seize (p0 : Nat) (x1 : Int32) (I : sm_MI) : Option (sm_MI) :=
  sd_lt (sd_up I p0 0 ((I p0 0) &&& (x1 ^^^ (-1 : Int32)))) fun I1 =>
  sd_lt (sd_up I1 p0 1 ((I1 p0 1) ||| x1)) fun I2 =>
  some (I2)
theorem G_State_seize {X : Nat × (Nat → Int32)} {t d D : Nat} {Q : sm_Q} {I : sm_MI} {J : sm_MJ} {p0 : Nat} {x1 : Int32} {Iz : sm_MI}
    (hD : 0 ≤ D) (hp : (p0 = 9) ∨ (p0 = 20)) (h : F_State_seize p0 x1 I = some (Iz)) (hQ : Q (.inl none) (Iz, J, sm_rf t d))  : sm_W sm_sh X (sm_C sm_sh X sm_P D) me_63 Q (0, [some (.ref p0), some (.int x1)], [], 0, 0) (I, J, sm_rf t d) := by
  unfold F_State_seize at h
  rcases hp with rfl | rfl
  · skip
    refine sm_W.runL (sm_C_mono D) 8 (G := True) (e := (sd_up I 9 0 ((I 9 0) &&& (x1 ^^^ (-1 : Int32))))) (fr' := fun _ => (8, [some (.ref 9), some (.int x1)], [], 0, 0)) (M' := fun I1 => (I1, J, sm_rf t d)) rfl h trivial (fun I1 h => ?_)
    refine sm_W.runL (sm_C_mono D) 6 (G := True) (e := (sd_up I1 9 1 ((I1 9 1) ||| x1))) (fr' := fun _ => (14, [some (.ref 9), some (.int x1)], [], 0, 0)) (M' := fun I2 => (I2, J, sm_rf t d)) rfl h trivial (fun I2 h => ?_)
    cases h
    exact sm_W.ret (sm_C_mono D) rfl hQ
  · skip
    refine sm_W.runL (sm_C_mono D) 8 (G := True) (e := (sd_up I 20 0 ((I 20 0) &&& (x1 ^^^ (-1 : Int32))))) (fr' := fun _ => (8, [some (.ref 20), some (.int x1)], [], 0, 0)) (M' := fun I1 => (I1, J, sm_rf t d)) rfl h trivial (fun I1 h => ?_)
    refine sm_W.runL (sm_C_mono D) 6 (G := True) (e := (sd_up I1 20 1 ((I1 20 1) ||| x1))) (fr' := fun _ => (14, [some (.ref 20), some (.int x1)], [], 0, 0)) (M' := fun I2 => (I2, J, sm_rf t d)) rfl h trivial (fun I2 h => ?_)
    cases h
    exact sm_W.ret (sm_C_mono D) rfl hQ
theorem T_State_seize {X : Nat × (Nat → Int32)} {t d D : Nat} {Q : sm_Q} {I : sm_MI} {J : sm_MJ} {p0 : Nat} {x1 : Int32} {Iz : sm_MI}
    (hD : 1 ≤ D) (hp : (p0 = 9) ∨ (p0 = 20)) (h : F_State_seize p0 x1 I = some (Iz)) (hQ : Q (.inl none) (Iz, J, sm_rf t d)) : sm_C sm_sh X sm_P D 63 [.ref p0, .int x1] (I, J, sm_rf t d) Q := by
  cases D with
  | zero => omega
  | succ D => exact sm_C.of (me := me_63) (L := [some (.ref p0), some (.int x1)]) rfl rfl rfl (sm_W.forget (L' := [some (.ref p0), some (.int x1)]) ⟨rfl, ⟨rfl, trivial⟩⟩ (G_State_seize (by omega) hp h hQ))
-- 64 State_letGo
noncomputable def F_State_letGo (p0 : Nat) (x1 : Int32) (I : sm_MI) : Option (sm_MI) :=
  sd_lt (sd_up I p0 1 ((I p0 1) &&& (x1 ^^^ (-1 : Int32)))) fun I1 =>
  sd_lt (sd_up I1 p0 0 ((I1 p0 0) ||| x1)) fun I2 =>
  some (I2)
theorem G_State_letGo {X : Nat × (Nat → Int32)} {t d D : Nat} {Q : sm_Q} {I : sm_MI} {J : sm_MJ} {p0 : Nat} {x1 : Int32} {Iz : sm_MI}
    (hD : 0 ≤ D) (hp : (p0 = 9) ∨ (p0 = 20)) (h : F_State_letGo p0 x1 I = some (Iz)) (hQ : Q (.inl none) (Iz, J, sm_rf t d))  : sm_W sm_sh X (sm_C sm_sh X sm_P D) me_64 Q (0, [some (.ref p0), some (.int x1)], [], 0, 0) (I, J, sm_rf t d) := by
  unfold F_State_letGo at h
  rcases hp with rfl | rfl
  · skip
    refine sm_W.runL (sm_C_mono D) 8 (G := True) (e := (sd_up I 9 1 ((I 9 1) &&& (x1 ^^^ (-1 : Int32))))) (fr' := fun _ => (8, [some (.ref 9), some (.int x1)], [], 0, 0)) (M' := fun I1 => (I1, J, sm_rf t d)) rfl h trivial (fun I1 h => ?_)
    refine sm_W.runL (sm_C_mono D) 6 (G := True) (e := (sd_up I1 9 0 ((I1 9 0) ||| x1))) (fr' := fun _ => (14, [some (.ref 9), some (.int x1)], [], 0, 0)) (M' := fun I2 => (I2, J, sm_rf t d)) rfl h trivial (fun I2 h => ?_)
    cases h
    exact sm_W.ret (sm_C_mono D) rfl hQ
  · skip
    refine sm_W.runL (sm_C_mono D) 8 (G := True) (e := (sd_up I 20 1 ((I 20 1) &&& (x1 ^^^ (-1 : Int32))))) (fr' := fun _ => (8, [some (.ref 20), some (.int x1)], [], 0, 0)) (M' := fun I1 => (I1, J, sm_rf t d)) rfl h trivial (fun I1 h => ?_)
    refine sm_W.runL (sm_C_mono D) 6 (G := True) (e := (sd_up I1 20 0 ((I1 20 0) ||| x1))) (fr' := fun _ => (14, [some (.ref 20), some (.int x1)], [], 0, 0)) (M' := fun I2 => (I2, J, sm_rf t d)) rfl h trivial (fun I2 h => ?_)
    cases h
    exact sm_W.ret (sm_C_mono D) rfl hQ
theorem T_State_letGo {X : Nat × (Nat → Int32)} {t d D : Nat} {Q : sm_Q} {I : sm_MI} {J : sm_MJ} {p0 : Nat} {x1 : Int32} {Iz : sm_MI}
    (hD : 1 ≤ D) (hp : (p0 = 9) ∨ (p0 = 20)) (h : F_State_letGo p0 x1 I = some (Iz)) (hQ : Q (.inl none) (Iz, J, sm_rf t d)) : sm_C sm_sh X sm_P D 64 [.ref p0, .int x1] (I, J, sm_rf t d) Q := by
  cases D with
  | zero => omega
  | succ D => exact sm_C.of (me := me_64) (L := [some (.ref p0), some (.int x1)]) rfl rfl rfl (sm_W.forget (L' := [some (.ref p0), some (.int x1)]) ⟨rfl, ⟨rfl, trivial⟩⟩ (G_State_letGo (by omega) hp h hQ))
-- 65 State_turn
noncomputable def F_State_turn (x1 : Int32) (I : sm_MI) : Option (sm_MI) :=
  sd_q1 (F_State_howIs 20 x1 I) fun r1 =>
  if ¬ r1 = 0 then
    if ¬ r1 = (1 : Int32) then
      some (I)
    else
      sd_q1 (F_State_letGo 20 ((1 : Int32) <<< (x1 &&& 31)) I) fun I2 =>
      some (I2)
  else
    sd_q1 (F_State_seize 20 ((1 : Int32) <<< (x1 &&& 31)) I) fun I3 =>
    some (I3)
theorem G_State_turn {X : Nat × (Nat → Int32)} {t d D : Nat} {Q : sm_Q} {I : sm_MI} {J : sm_MJ} {x1 : Int32} {Iz : sm_MI}
    (hD : 1 ≤ D) (h : F_State_turn x1 I = some (Iz)) (hQ : Q (.inl none) (Iz, J, sm_rf t d))  : sm_W sm_sh X (sm_C sm_sh X sm_P D) me_65 Q (0, [some (.ref 20), some (.int x1), none], [], 0, 0) (I, J, sm_rf t d) := by
  unfold F_State_turn at h
  refine sm_W.run (sm_C_mono D) 2 (G := True) (fr' := (2, [some (.ref 20), some (.int x1), none], [.int x1, .ref 20], 0, 0)) (M' := (I, J, sm_rf t d)) rfl trivial ?_
  obtain ⟨r1, hc, h⟩ := sd_q1_go h
  refine sm_W.cal (sm_C_mono D) (y := 61) (as := [.ref 20, .int x1]) (fr' := (3, [some (.ref 20), some (.int x1), none], [], 0, 0)) rfl (T_State_howIs (by omega) (by decide) hc ?_)
  show sm_W sm_sh X (sm_C sm_sh X sm_P D) me_65 Q (3, [some (.ref 20), some (.int x1), none], [.int r1], 0, 0) (I, J, sm_rf t d)
  refine sm_W.run (sm_C_mono D) 3 (G := True) (fr' := (if decide (¬ r1 = 0) = true then 12 else 6, [some (.ref 20), some (.int x1), some (.int r1)], [], 0, 0)) (M' := (I, J, sm_rf t d)) rfl trivial (sm_W.iteD h (fun hc h => ?_) (fun hc h => ?_))
  · refine sm_W.run (sm_C_mono D) 3 (G := True) (fr' := (if decide (¬ r1 = (1 : Int32)) = true then 20 else 15, [some (.ref 20), some (.int x1), some (.int r1)], [], 0, 0)) (M' := (I, J, sm_rf t d)) rfl trivial (sm_W.iteD h (fun hc h => ?_) (fun hc h => ?_))
    · cases h
      exact sm_W.ret (sm_C_mono D) rfl hQ
    · refine sm_W.run (sm_C_mono D) 4 (G := True) (fr' := (19, [some (.ref 20), some (.int x1), some (.int r1)], [.int ((1 : Int32) <<< (x1 &&& 31)), .ref 20], 0, 0)) (M' := (I, J, sm_rf t d)) rfl trivial ?_
      obtain ⟨I2, hc, h⟩ := sd_q1_go h
      refine sm_W.cal (sm_C_mono D) (y := 64) (as := [.ref 20, .int ((1 : Int32) <<< (x1 &&& 31))]) (fr' := (20, [some (.ref 20), some (.int x1), some (.int r1)], [], 0, 0)) rfl (T_State_letGo (by omega) (by decide) hc ?_)
      show sm_W sm_sh X (sm_C sm_sh X sm_P D) me_65 Q (20, [some (.ref 20), some (.int x1), some (.int r1)], [], 0, 0) (I2, J, sm_rf t d)
      cases h
      exact sm_W.ret (sm_C_mono D) rfl hQ
  · refine sm_W.run (sm_C_mono D) 4 (G := True) (fr' := (10, [some (.ref 20), some (.int x1), some (.int r1)], [.int ((1 : Int32) <<< (x1 &&& 31)), .ref 20], 0, 0)) (M' := (I, J, sm_rf t d)) rfl trivial ?_
    obtain ⟨I3, hc, h⟩ := sd_q1_go h
    refine sm_W.cal (sm_C_mono D) (y := 63) (as := [.ref 20, .int ((1 : Int32) <<< (x1 &&& 31))]) (fr' := (11, [some (.ref 20), some (.int x1), some (.int r1)], [], 0, 0)) rfl (T_State_seize (by omega) (by decide) hc ?_)
    show sm_W sm_sh X (sm_C sm_sh X sm_P D) me_65 Q (11, [some (.ref 20), some (.int x1), some (.int r1)], [], 0, 0) (I3, J, sm_rf t d)
    refine sm_W.run (sm_C_mono D) 1 (G := True) (fr' := (20, [some (.ref 20), some (.int x1), some (.int r1)], [], 0, 0)) (M' := (I3, J, sm_rf t d)) rfl trivial ?_
    cases h
    exact sm_W.ret (sm_C_mono D) rfl hQ
theorem T_State_turn {X : Nat × (Nat → Int32)} {t d D : Nat} {Q : sm_Q} {I : sm_MI} {J : sm_MJ} {x1 : Int32} {Iz : sm_MI}
    (hD : 2 ≤ D) (h : F_State_turn x1 I = some (Iz)) (hQ : Q (.inl none) (Iz, J, sm_rf t d)) : sm_C sm_sh X sm_P D 65 [.ref 20, .int x1] (I, J, sm_rf t d) Q := by
  cases D with
  | zero => omega
  | succ D => exact sm_C.of (me := me_65) (L := [some (.ref 20), some (.int x1), none]) rfl rfl rfl (sm_W.forget (L' := [some (.ref 20), some (.int x1), none]) ⟨rfl, ⟨rfl, trivial⟩⟩ (G_State_turn (by omega) h hQ))
-- 66 Tape_put
noncomputable def F_Tape_put_2B (k2 : Int32 → Int32 → sm_MI → Option (sm_MI)) (x1 : Int32) (x2 : Int32) (I : sm_MI) : Option (sm_MI) :=
  if x2 < 0 then
    some (I)
  else
    if (I 4 1) < 0 then
      k2 x1 (x2 + (-8 : Int32)) I
    else
      if (700 : Int32) ≤ (I 4 1) then
        k2 x1 (x2 + (-8 : Int32)) I
      else
        sd_gu (sm_in (I 4 1) 700 = true) <|
        sd_lt (sd_up I 5 (Int32.toNatClampNeg (I 4 1)) ((sd_ush x1 x2) &&& (255 : Int32))) fun I2 =>
        sd_lt (sd_up I2 4 1 ((I2 4 1) + (1 : Int32))) fun I3 =>
        k2 x1 (x2 + (-8 : Int32)) I3
noncomputable def F_Tape_put_2  (n : Nat) : Int32 → Int32 → sm_MI → Option (sm_MI) :=
  sd_fix (fun k x1 x2 I => F_Tape_put_2B k x1 x2 I) (fun _ _ _ => none) n
noncomputable def F_Tape_put (x1 : Int32) (I : sm_MI) : Option (sm_MI) :=
  F_Tape_put_2 sd_fu x1 (24 : Int32) I
theorem G_Tape_put_2B {X : Nat × (Nat → Int32)} {t d D : Nat} {Q : sm_Q} {I : sm_MI} {J : sm_MJ} {k2 : Int32 → Int32 → sm_MI → Option (sm_MI)} {x1 : Int32} {x2 : Int32} {Iz : sm_MI}
    (hD : 0 ≤ D) (h : F_Tape_put_2B k2 x1 x2 I = some (Iz)) (hQ : Q (.inl none) (Iz, J, sm_rf t d)) (hk2 : ∀ (x1 : Int32) (x2 : Int32) (I : sm_MI), k2 x1 x2 I = some (Iz) → sm_W sm_sh X (sm_C sm_sh X sm_P D) me_66 Q (2, [some (.ref 4), some (.int x1), some (.int x2)], [], 0, 0) (I, J, sm_rf t d)) : sm_W sm_sh X (sm_C sm_sh X sm_P D) me_66 Q (2, [some (.ref 4), some (.int x1), some (.int x2)], [], 0, 0) (I, J, sm_rf t d) := by
  unfold F_Tape_put_2B at h
  refine sm_W.run (sm_C_mono D) 2 (G := True) (fr' := (if decide (x2 < 0) = true then 29 else 4, [some (.ref 4), some (.int x1), some (.int x2)], [], 0, 0)) (M' := (I, J, sm_rf t d)) rfl trivial (sm_W.iteD h (fun hc h => ?_) (fun hc h => ?_))
  · cases h
    exact sm_W.ret (sm_C_mono D) rfl hQ
  · refine sm_W.run (sm_C_mono D) 3 (G := True) (fr' := (if decide ((I 4 1) < 0) = true then 27 else 7, [some (.ref 4), some (.int x1), some (.int x2)], [], 0, 0)) (M' := (I, J, sm_rf t d)) rfl trivial (sm_W.iteD h (fun hc h => ?_) (fun hc h => ?_))
    · refine sm_W.run (sm_C_mono D) 2 (G := True) (fr' := (2, [some (.ref 4), some (.int x1), some (.int (x2 + (-8 : Int32)))], [], 0, 0)) (M' := (I, J, sm_rf t d)) rfl trivial ?_
      exact (hk2 _ _ _ h)
    · refine sm_W.run (sm_C_mono D) 4 (G := True) (fr' := (if decide ((700 : Int32) ≤ (I 4 1)) = true then 27 else 11, [some (.ref 4), some (.int x1), some (.int x2)], [], 0, 0)) (M' := (I, J, sm_rf t d)) rfl trivial (sm_W.iteD h (fun hc h => ?_) (fun hc h => ?_))
      · refine sm_W.run (sm_C_mono D) 2 (G := True) (fr' := (2, [some (.ref 4), some (.int x1), some (.int (x2 + (-8 : Int32)))], [], 0, 0)) (M' := (I, J, sm_rf t d)) rfl trivial ?_
        exact (hk2 _ _ _ h)
      · obtain ⟨g1, h⟩ := sd_gu_go h
        refine sm_W.runL (sm_C_mono D) 10 (G := sm_in (I 4 1) 700 = true ∧ True) (e := (sd_up I 5 (Int32.toNatClampNeg (I 4 1)) ((sd_ush x1 x2) &&& (255 : Int32)))) (fr' := fun _ => (21, [some (.ref 4), some (.int x1), some (.int x2)], [], 0, 0)) (M' := fun I2 => (I2, J, sm_rf t d)) rfl h ⟨g1, trivial⟩ (fun I2 h => ?_)
        refine sm_W.runL (sm_C_mono D) 6 (G := True) (e := (sd_up I2 4 1 ((I2 4 1) + (1 : Int32)))) (fr' := fun _ => (27, [some (.ref 4), some (.int x1), some (.int x2)], [], 0, 0)) (M' := fun I3 => (I3, J, sm_rf t d)) rfl h trivial (fun I3 h => ?_)
        refine sm_W.run (sm_C_mono D) 2 (G := True) (fr' := (2, [some (.ref 4), some (.int x1), some (.int (x2 + (-8 : Int32)))], [], 0, 0)) (M' := (I3, J, sm_rf t d)) rfl trivial ?_
        exact (hk2 _ _ _ h)
theorem G_Tape_put_2 {X : Nat × (Nat → Int32)} {t d D : Nat} {Q : sm_Q} {J : sm_MJ} {Iz : sm_MI}
    (hD : 0 ≤ D) (hQ : Q (.inl none) (Iz, J, sm_rf t d))  : ∀ (n : Nat) (x1 : Int32) (x2 : Int32) (I : sm_MI), F_Tape_put_2 n x1 x2 I = some (Iz) → sm_W sm_sh X (sm_C sm_sh X sm_P D) me_66 Q (2, [some (.ref 4), some (.int x1), some (.int x2)], [], 0, 0) (I, J, sm_rf t d) := by
  intro n
  induction n with
  | zero => intro x1 x2 I h; cases (show (none : Option (sm_MI)) = some (Iz) from h)
  | succ n ih => intro x1 x2 I h; exact G_Tape_put_2B hD (show F_Tape_put_2B (F_Tape_put_2 n) x1 x2 I = some (Iz) from h) hQ  ih
theorem G_Tape_put {X : Nat × (Nat → Int32)} {t d D : Nat} {Q : sm_Q} {I : sm_MI} {J : sm_MJ} {x1 : Int32} {Iz : sm_MI}
    (hD : 0 ≤ D) (h : F_Tape_put x1 I = some (Iz)) (hQ : Q (.inl none) (Iz, J, sm_rf t d))  : sm_W sm_sh X (sm_C sm_sh X sm_P D) me_66 Q (0, [some (.ref 4), some (.int x1), none], [], 0, 0) (I, J, sm_rf t d) := by
  unfold F_Tape_put at h
  refine sm_W.run (sm_C_mono D) 2 (G := True) (fr' := (2, [some (.ref 4), some (.int x1), some (.int (24 : Int32))], [], 0, 0)) (M' := (I, J, sm_rf t d)) rfl trivial ?_
  exact (G_Tape_put_2 hD hQ sd_fu _ _ _ h)
theorem T_Tape_put {X : Nat × (Nat → Int32)} {t d D : Nat} {Q : sm_Q} {I : sm_MI} {J : sm_MJ} {x1 : Int32} {Iz : sm_MI}
    (hD : 1 ≤ D) (h : F_Tape_put x1 I = some (Iz)) (hQ : Q (.inl none) (Iz, J, sm_rf t d)) : sm_C sm_sh X sm_P D 66 [.ref 4, .int x1] (I, J, sm_rf t d) Q := by
  cases D with
  | zero => omega
  | succ D => exact sm_C.of (me := me_66) (L := [some (.ref 4), some (.int x1), none]) rfl rfl rfl (sm_W.forget (L' := [some (.ref 4), some (.int x1), none]) ⟨rfl, ⟨rfl, trivial⟩⟩ (G_Tape_put (by omega) h hQ))
-- 86 Valley_skillsOf
noncomputable def F_Valley_skillsOf_4B (p0 : Nat) (k4 : Int32 → Int32 → Int32 → Option (Int32)) (x1 : Int32) (x2 : Int32) (x3 : Int32) (I : sm_MI) : Option (Int32) :=
  if (14 : Int32) ≤ x3 then
    some (x2)
  else
    if ((x1 >>> (x3 &&& 31)) &&& (1 : Int32)) = 0 then
      k4 x1 x2 (x3 + (1 : Int32))
    else
      sd_gu (sm_in x3 14 = true) <|
      sd_lt (x2 + (I (p0 + 5) (Int32.toNatClampNeg x3))) fun a2 =>
      k4 x1 a2 (x3 + (1 : Int32))
noncomputable def F_Valley_skillsOf_4 (p0 : Nat) (I : sm_MI) (n : Nat) : Int32 → Int32 → Int32 → Option (Int32) :=
  sd_fix (fun k x1 x2 x3 => F_Valley_skillsOf_4B p0 k x1 x2 x3 I) (fun _ _ _ => none) n
noncomputable def F_Valley_skillsOf (p0 : Nat) (x1 : Int32) (I : sm_MI) : Option (Int32) :=
  F_Valley_skillsOf_4 p0 I sd_fu x1 (0 : Int32) (0 : Int32)
theorem G_Valley_skillsOf_4B {X : Nat × (Nat → Int32)} {t d D : Nat} {Q : sm_Q} {I : sm_MI} {J : sm_MJ} {p0 : Nat} {k4 : Int32 → Int32 → Int32 → Option (Int32)} {x1 : Int32} {x2 : Int32} {x3 : Int32} {rz : Int32}
    (hD : 0 ≤ D) (hp : (p0 = 21) ∨ (p0 = 41)) (h : F_Valley_skillsOf_4B p0 k4 x1 x2 x3 I = some (rz)) (hQ : Q (.inl (some (.int rz))) (I, J, sm_rf t d)) (hk4 : ∀ (x1 : Int32) (x2 : Int32) (x3 : Int32), k4 x1 x2 x3 = some (rz) → sm_W sm_sh X (sm_C sm_sh X sm_P D) me_86 Q (4, [some (.ref p0), some (.int x1), some (.int x2), some (.int x3)], [], 0, 0) (I, J, sm_rf t d)) : sm_W sm_sh X (sm_C sm_sh X sm_P D) me_86 Q (4, [some (.ref p0), some (.int x1), some (.int x2), some (.int x3)], [], 0, 0) (I, J, sm_rf t d) := by
  unfold F_Valley_skillsOf_4B at h
  rcases hp with rfl | rfl
  · skip
    refine sm_W.run (sm_C_mono D) 3 (G := True) (fr' := (if decide ((14 : Int32) ≤ x3) = true then 22 else 7, [some (.ref 21), some (.int x1), some (.int x2), some (.int x3)], [], 0, 0)) (M' := (I, J, sm_rf t d)) rfl trivial (sm_W.iteD h (fun hc h => ?_) (fun hc h => ?_))
    · refine sm_W.run (sm_C_mono D) 1 (G := True) (fr' := (23, [some (.ref 21), some (.int x1), some (.int x2), some (.int x3)], [.int x2], 0, 0)) (M' := (I, J, sm_rf t d)) rfl trivial ?_
      cases h
      exact sm_W.ret (sm_C_mono D) rfl hQ
    · refine sm_W.run (sm_C_mono D) 6 (G := True) (fr' := (if decide (((x1 >>> (x3 &&& 31)) &&& (1 : Int32)) = 0) = true then 20 else 13, [some (.ref 21), some (.int x1), some (.int x2), some (.int x3)], [], 0, 0)) (M' := (I, J, sm_rf t d)) rfl trivial (sm_W.iteD h (fun hc h => ?_) (fun hc h => ?_))
      · refine sm_W.run (sm_C_mono D) 2 (G := True) (fr' := (4, [some (.ref 21), some (.int x1), some (.int x2), some (.int (x3 + (1 : Int32)))], [], 0, 0)) (M' := (I, J, sm_rf t d)) rfl trivial ?_
        exact (hk4 _ _ _ h)
      · obtain ⟨g1, h⟩ := sd_gu_go h
        refine sm_W.runL (sm_C_mono D) 7 (G := sm_in x3 14 = true ∧ True) (e := (x2 + (I (21 + 5) (Int32.toNatClampNeg x3)))) (fr' := fun a2 => (20, [some (.ref 21), some (.int x1), some (.int a2), some (.int x3)], [], 0, 0)) (M' := fun _ => (I, J, sm_rf t d)) rfl h ⟨g1, trivial⟩ (fun a2 h => ?_)
        refine sm_W.run (sm_C_mono D) 2 (G := True) (fr' := (4, [some (.ref 21), some (.int x1), some (.int a2), some (.int (x3 + (1 : Int32)))], [], 0, 0)) (M' := (I, J, sm_rf t d)) rfl trivial ?_
        exact (hk4 _ _ _ h)
  · skip
    refine sm_W.run (sm_C_mono D) 3 (G := True) (fr' := (if decide ((14 : Int32) ≤ x3) = true then 22 else 7, [some (.ref 41), some (.int x1), some (.int x2), some (.int x3)], [], 0, 0)) (M' := (I, J, sm_rf t d)) rfl trivial (sm_W.iteD h (fun hc h => ?_) (fun hc h => ?_))
    · refine sm_W.run (sm_C_mono D) 1 (G := True) (fr' := (23, [some (.ref 41), some (.int x1), some (.int x2), some (.int x3)], [.int x2], 0, 0)) (M' := (I, J, sm_rf t d)) rfl trivial ?_
      cases h
      exact sm_W.ret (sm_C_mono D) rfl hQ
    · refine sm_W.run (sm_C_mono D) 6 (G := True) (fr' := (if decide (((x1 >>> (x3 &&& 31)) &&& (1 : Int32)) = 0) = true then 20 else 13, [some (.ref 41), some (.int x1), some (.int x2), some (.int x3)], [], 0, 0)) (M' := (I, J, sm_rf t d)) rfl trivial (sm_W.iteD h (fun hc h => ?_) (fun hc h => ?_))
      · refine sm_W.run (sm_C_mono D) 2 (G := True) (fr' := (4, [some (.ref 41), some (.int x1), some (.int x2), some (.int (x3 + (1 : Int32)))], [], 0, 0)) (M' := (I, J, sm_rf t d)) rfl trivial ?_
        exact (hk4 _ _ _ h)
      · obtain ⟨g1, h⟩ := sd_gu_go h
        refine sm_W.runL (sm_C_mono D) 7 (G := sm_in x3 14 = true ∧ True) (e := (x2 + (I (41 + 5) (Int32.toNatClampNeg x3)))) (fr' := fun a2 => (20, [some (.ref 41), some (.int x1), some (.int a2), some (.int x3)], [], 0, 0)) (M' := fun _ => (I, J, sm_rf t d)) rfl h ⟨g1, trivial⟩ (fun a2 h => ?_)
        refine sm_W.run (sm_C_mono D) 2 (G := True) (fr' := (4, [some (.ref 41), some (.int x1), some (.int a2), some (.int (x3 + (1 : Int32)))], [], 0, 0)) (M' := (I, J, sm_rf t d)) rfl trivial ?_
        exact (hk4 _ _ _ h)
theorem G_Valley_skillsOf_4 {X : Nat × (Nat → Int32)} {t d D : Nat} {Q : sm_Q} {I : sm_MI} {J : sm_MJ} {p0 : Nat} {rz : Int32}
    (hD : 0 ≤ D) (hp : (p0 = 21) ∨ (p0 = 41)) (hQ : Q (.inl (some (.int rz))) (I, J, sm_rf t d))  : ∀ (n : Nat) (x1 : Int32) (x2 : Int32) (x3 : Int32), F_Valley_skillsOf_4 p0 I n x1 x2 x3 = some (rz) → sm_W sm_sh X (sm_C sm_sh X sm_P D) me_86 Q (4, [some (.ref p0), some (.int x1), some (.int x2), some (.int x3)], [], 0, 0) (I, J, sm_rf t d) := by
  intro n
  induction n with
  | zero => intro x1 x2 x3 h; cases (show (none : Option (Int32)) = some (rz) from h)
  | succ n ih => intro x1 x2 x3 h; exact G_Valley_skillsOf_4B hD hp (show F_Valley_skillsOf_4B p0 (F_Valley_skillsOf_4 p0 I n) x1 x2 x3 I = some (rz) from h) hQ  ih
theorem G_Valley_skillsOf {X : Nat × (Nat → Int32)} {t d D : Nat} {Q : sm_Q} {I : sm_MI} {J : sm_MJ} {p0 : Nat} {x1 : Int32} {rz : Int32}
    (hD : 0 ≤ D) (hp : (p0 = 21) ∨ (p0 = 41)) (h : F_Valley_skillsOf p0 x1 I = some (rz)) (hQ : Q (.inl (some (.int rz))) (I, J, sm_rf t d))  : sm_W sm_sh X (sm_C sm_sh X sm_P D) me_86 Q (0, [some (.ref p0), some (.int x1), none, none], [], 0, 0) (I, J, sm_rf t d) := by
  unfold F_Valley_skillsOf at h
  rcases hp with rfl | rfl
  · skip
    refine sm_W.run (sm_C_mono D) 4 (G := True) (fr' := (4, [some (.ref 21), some (.int x1), some (.int (0 : Int32)), some (.int (0 : Int32))], [], 0, 0)) (M' := (I, J, sm_rf t d)) rfl trivial ?_
    exact (G_Valley_skillsOf_4 hD (by decide) hQ sd_fu _ _ _ h)
  · skip
    refine sm_W.run (sm_C_mono D) 4 (G := True) (fr' := (4, [some (.ref 41), some (.int x1), some (.int (0 : Int32)), some (.int (0 : Int32))], [], 0, 0)) (M' := (I, J, sm_rf t d)) rfl trivial ?_
    exact (G_Valley_skillsOf_4 hD (by decide) hQ sd_fu _ _ _ h)
theorem T_Valley_skillsOf {X : Nat × (Nat → Int32)} {t d D : Nat} {Q : sm_Q} {I : sm_MI} {J : sm_MJ} {p0 : Nat} {x1 : Int32} {rz : Int32}
    (hD : 1 ≤ D) (hp : (p0 = 21) ∨ (p0 = 41)) (h : F_Valley_skillsOf p0 x1 I = some (rz)) (hQ : Q (.inl (some (.int rz))) (I, J, sm_rf t d)) : sm_C sm_sh X sm_P D 86 [.ref p0, .int x1] (I, J, sm_rf t d) Q := by
  cases D with
  | zero => omega
  | succ D => exact sm_C.of (me := me_86) (L := [some (.ref p0), some (.int x1), none, none]) rfl rfl rfl (sm_W.forget (L' := [some (.ref p0), some (.int x1), none, none]) ⟨rfl, ⟨rfl, trivial⟩⟩ (G_Valley_skillsOf (by omega) hp h hQ))
-- 87 Valley_notesIn
noncomputable def F_Valley_notesIn_4B (p0 : Nat) (k4 : Int32 → Int32 → Int32 → Option (Int32)) (x1 : Int32) (x2 : Int32) (x3 : Int32) (I : sm_MI) : Option (Int32) :=
  if (4 : Int32) ≤ x3 then
    some (x2)
  else
    sd_gu (sm_in ((x1 * (4 : Int32)) + x3) 20 = true) <|
    sd_lt (x2 + (I (p0 + 7) (Int32.toNatClampNeg ((x1 * (4 : Int32)) + x3)))) fun a2 =>
    k4 x1 a2 (x3 + (1 : Int32))
noncomputable def F_Valley_notesIn_4 (p0 : Nat) (I : sm_MI) (n : Nat) : Int32 → Int32 → Int32 → Option (Int32) :=
  sd_fix (fun k x1 x2 x3 => F_Valley_notesIn_4B p0 k x1 x2 x3 I) (fun _ _ _ => none) n
noncomputable def F_Valley_notesIn (p0 : Nat) (x1 : Int32) (I : sm_MI) : Option (Int32) :=
  F_Valley_notesIn_4 p0 I sd_fu x1 (0 : Int32) (0 : Int32)
theorem G_Valley_notesIn_4B {X : Nat × (Nat → Int32)} {t d D : Nat} {Q : sm_Q} {I : sm_MI} {J : sm_MJ} {p0 : Nat} {k4 : Int32 → Int32 → Int32 → Option (Int32)} {x1 : Int32} {x2 : Int32} {x3 : Int32} {rz : Int32}
    (hD : 0 ≤ D) (hp : (p0 = 21) ∨ (p0 = 41)) (h : F_Valley_notesIn_4B p0 k4 x1 x2 x3 I = some (rz)) (hQ : Q (.inl (some (.int rz))) (I, J, sm_rf t d)) (hk4 : ∀ (x1 : Int32) (x2 : Int32) (x3 : Int32), k4 x1 x2 x3 = some (rz) → sm_W sm_sh X (sm_C sm_sh X sm_P D) me_87 Q (4, [some (.ref p0), some (.int x1), some (.int x2), some (.int x3)], [], 0, 0) (I, J, sm_rf t d)) : sm_W sm_sh X (sm_C sm_sh X sm_P D) me_87 Q (4, [some (.ref p0), some (.int x1), some (.int x2), some (.int x3)], [], 0, 0) (I, J, sm_rf t d) := by
  unfold F_Valley_notesIn_4B at h
  rcases hp with rfl | rfl
  · skip
    refine sm_W.run (sm_C_mono D) 3 (G := True) (fr' := (if decide ((4 : Int32) ≤ x3) = true then 20 else 7, [some (.ref 21), some (.int x1), some (.int x2), some (.int x3)], [], 0, 0)) (M' := (I, J, sm_rf t d)) rfl trivial (sm_W.iteD h (fun hc h => ?_) (fun hc h => ?_))
    · refine sm_W.run (sm_C_mono D) 1 (G := True) (fr' := (21, [some (.ref 21), some (.int x1), some (.int x2), some (.int x3)], [.int x2], 0, 0)) (M' := (I, J, sm_rf t d)) rfl trivial ?_
      cases h
      exact sm_W.ret (sm_C_mono D) rfl hQ
    · obtain ⟨g1, h⟩ := sd_gu_go h
      refine sm_W.runL (sm_C_mono D) 11 (G := sm_in ((x1 * (4 : Int32)) + x3) 20 = true ∧ True) (e := (x2 + (I (21 + 7) (Int32.toNatClampNeg ((x1 * (4 : Int32)) + x3))))) (fr' := fun a2 => (18, [some (.ref 21), some (.int x1), some (.int a2), some (.int x3)], [], 0, 0)) (M' := fun _ => (I, J, sm_rf t d)) rfl h ⟨g1, trivial⟩ (fun a2 h => ?_)
      refine sm_W.run (sm_C_mono D) 2 (G := True) (fr' := (4, [some (.ref 21), some (.int x1), some (.int a2), some (.int (x3 + (1 : Int32)))], [], 0, 0)) (M' := (I, J, sm_rf t d)) rfl trivial ?_
      exact (hk4 _ _ _ h)
  · skip
    refine sm_W.run (sm_C_mono D) 3 (G := True) (fr' := (if decide ((4 : Int32) ≤ x3) = true then 20 else 7, [some (.ref 41), some (.int x1), some (.int x2), some (.int x3)], [], 0, 0)) (M' := (I, J, sm_rf t d)) rfl trivial (sm_W.iteD h (fun hc h => ?_) (fun hc h => ?_))
    · refine sm_W.run (sm_C_mono D) 1 (G := True) (fr' := (21, [some (.ref 41), some (.int x1), some (.int x2), some (.int x3)], [.int x2], 0, 0)) (M' := (I, J, sm_rf t d)) rfl trivial ?_
      cases h
      exact sm_W.ret (sm_C_mono D) rfl hQ
    · obtain ⟨g1, h⟩ := sd_gu_go h
      refine sm_W.runL (sm_C_mono D) 11 (G := sm_in ((x1 * (4 : Int32)) + x3) 20 = true ∧ True) (e := (x2 + (I (41 + 7) (Int32.toNatClampNeg ((x1 * (4 : Int32)) + x3))))) (fr' := fun a2 => (18, [some (.ref 41), some (.int x1), some (.int a2), some (.int x3)], [], 0, 0)) (M' := fun _ => (I, J, sm_rf t d)) rfl h ⟨g1, trivial⟩ (fun a2 h => ?_)
      refine sm_W.run (sm_C_mono D) 2 (G := True) (fr' := (4, [some (.ref 41), some (.int x1), some (.int a2), some (.int (x3 + (1 : Int32)))], [], 0, 0)) (M' := (I, J, sm_rf t d)) rfl trivial ?_
      exact (hk4 _ _ _ h)
theorem G_Valley_notesIn_4 {X : Nat × (Nat → Int32)} {t d D : Nat} {Q : sm_Q} {I : sm_MI} {J : sm_MJ} {p0 : Nat} {rz : Int32}
    (hD : 0 ≤ D) (hp : (p0 = 21) ∨ (p0 = 41)) (hQ : Q (.inl (some (.int rz))) (I, J, sm_rf t d))  : ∀ (n : Nat) (x1 : Int32) (x2 : Int32) (x3 : Int32), F_Valley_notesIn_4 p0 I n x1 x2 x3 = some (rz) → sm_W sm_sh X (sm_C sm_sh X sm_P D) me_87 Q (4, [some (.ref p0), some (.int x1), some (.int x2), some (.int x3)], [], 0, 0) (I, J, sm_rf t d) := by
  intro n
  induction n with
  | zero => intro x1 x2 x3 h; cases (show (none : Option (Int32)) = some (rz) from h)
  | succ n ih => intro x1 x2 x3 h; exact G_Valley_notesIn_4B hD hp (show F_Valley_notesIn_4B p0 (F_Valley_notesIn_4 p0 I n) x1 x2 x3 I = some (rz) from h) hQ  ih
theorem G_Valley_notesIn {X : Nat × (Nat → Int32)} {t d D : Nat} {Q : sm_Q} {I : sm_MI} {J : sm_MJ} {p0 : Nat} {x1 : Int32} {rz : Int32}
    (hD : 0 ≤ D) (hp : (p0 = 21) ∨ (p0 = 41)) (h : F_Valley_notesIn p0 x1 I = some (rz)) (hQ : Q (.inl (some (.int rz))) (I, J, sm_rf t d))  : sm_W sm_sh X (sm_C sm_sh X sm_P D) me_87 Q (0, [some (.ref p0), some (.int x1), none, none], [], 0, 0) (I, J, sm_rf t d) := by
  unfold F_Valley_notesIn at h
  rcases hp with rfl | rfl
  · skip
    refine sm_W.run (sm_C_mono D) 4 (G := True) (fr' := (4, [some (.ref 21), some (.int x1), some (.int (0 : Int32)), some (.int (0 : Int32))], [], 0, 0)) (M' := (I, J, sm_rf t d)) rfl trivial ?_
    exact (G_Valley_notesIn_4 hD (by decide) hQ sd_fu _ _ _ h)
  · skip
    refine sm_W.run (sm_C_mono D) 4 (G := True) (fr' := (4, [some (.ref 41), some (.int x1), some (.int (0 : Int32)), some (.int (0 : Int32))], [], 0, 0)) (M' := (I, J, sm_rf t d)) rfl trivial ?_
    exact (G_Valley_notesIn_4 hD (by decide) hQ sd_fu _ _ _ h)
theorem T_Valley_notesIn {X : Nat × (Nat → Int32)} {t d D : Nat} {Q : sm_Q} {I : sm_MI} {J : sm_MJ} {p0 : Nat} {x1 : Int32} {rz : Int32}
    (hD : 1 ≤ D) (hp : (p0 = 21) ∨ (p0 = 41)) (h : F_Valley_notesIn p0 x1 I = some (rz)) (hQ : Q (.inl (some (.int rz))) (I, J, sm_rf t d)) : sm_C sm_sh X sm_P D 87 [.ref p0, .int x1] (I, J, sm_rf t d) Q := by
  cases D with
  | zero => omega
  | succ D => exact sm_C.of (me := me_87) (L := [some (.ref p0), some (.int x1), none, none]) rfl rfl rfl (sm_W.forget (L' := [some (.ref p0), some (.int x1), none, none]) ⟨rfl, ⟨rfl, trivial⟩⟩ (G_Valley_notesIn (by omega) hp h hQ))
-- 92 Valley_isEvening
noncomputable def F_Valley_isEvening (p0 : Nat) (x1 : Int32) (I : sm_MI) : Option (Int32) :=
  if (I p0 2) ≤ 0 then
    some ((0 : Int32))
  else
    sd_gu (¬ (I p0 2) = 0) <|
    if ¬ (sd_mod x1 (I p0 2)) = 0 then
      some ((0 : Int32))
    else
      some ((1 : Int32))
theorem G_Valley_isEvening {X : Nat × (Nat → Int32)} {t d D : Nat} {Q : sm_Q} {I : sm_MI} {J : sm_MJ} {p0 : Nat} {x1 : Int32} {rz : Int32}
    (hD : 0 ≤ D) (hp : (p0 = 21) ∨ (p0 = 41)) (h : F_Valley_isEvening p0 x1 I = some (rz)) (hQ : Q (.inl (some (.int rz))) (I, J, sm_rf t d))  : sm_W sm_sh X (sm_C sm_sh X sm_P D) me_92 Q (0, [some (.ref p0), some (.int x1)], [], 0, 0) (I, J, sm_rf t d) := by
  unfold F_Valley_isEvening at h
  rcases hp with rfl | rfl
  · skip
    refine sm_W.run (sm_C_mono D) 3 (G := True) (fr' := (if decide ((I 21 2) ≤ 0) = true then 10 else 3, [some (.ref 21), some (.int x1)], [], 0, 0)) (M' := (I, J, sm_rf t d)) rfl trivial (sm_W.iteD h (fun hc h => ?_) (fun hc h => ?_))
    · refine sm_W.run (sm_C_mono D) 1 (G := True) (fr' := (11, [some (.ref 21), some (.int x1)], [.int (0 : Int32)], 0, 0)) (M' := (I, J, sm_rf t d)) rfl trivial ?_
      cases h
      exact sm_W.ret (sm_C_mono D) rfl hQ
    · obtain ⟨g1, h⟩ := sd_gu_go h
      refine sm_W.run (sm_C_mono D) 5 (G := ¬ (I 21 2) = 0 ∧ True) (fr' := (if decide (¬ (sd_mod x1 (I 21 2)) = 0) = true then 10 else 8, [some (.ref 21), some (.int x1)], [], 0, 0)) (M' := (I, J, sm_rf t d)) rfl ⟨g1, trivial⟩ (sm_W.iteD h (fun hc h => ?_) (fun hc h => ?_))
      · refine sm_W.run (sm_C_mono D) 1 (G := True) (fr' := (11, [some (.ref 21), some (.int x1)], [.int (0 : Int32)], 0, 0)) (M' := (I, J, sm_rf t d)) rfl trivial ?_
        cases h
        exact sm_W.ret (sm_C_mono D) rfl hQ
      · refine sm_W.run (sm_C_mono D) 2 (G := True) (fr' := (11, [some (.ref 21), some (.int x1)], [.int (1 : Int32)], 0, 0)) (M' := (I, J, sm_rf t d)) rfl trivial ?_
        cases h
        exact sm_W.ret (sm_C_mono D) rfl hQ
  · skip
    refine sm_W.run (sm_C_mono D) 3 (G := True) (fr' := (if decide ((I 41 2) ≤ 0) = true then 10 else 3, [some (.ref 41), some (.int x1)], [], 0, 0)) (M' := (I, J, sm_rf t d)) rfl trivial (sm_W.iteD h (fun hc h => ?_) (fun hc h => ?_))
    · refine sm_W.run (sm_C_mono D) 1 (G := True) (fr' := (11, [some (.ref 41), some (.int x1)], [.int (0 : Int32)], 0, 0)) (M' := (I, J, sm_rf t d)) rfl trivial ?_
      cases h
      exact sm_W.ret (sm_C_mono D) rfl hQ
    · obtain ⟨g1, h⟩ := sd_gu_go h
      refine sm_W.run (sm_C_mono D) 5 (G := ¬ (I 41 2) = 0 ∧ True) (fr' := (if decide (¬ (sd_mod x1 (I 41 2)) = 0) = true then 10 else 8, [some (.ref 41), some (.int x1)], [], 0, 0)) (M' := (I, J, sm_rf t d)) rfl ⟨g1, trivial⟩ (sm_W.iteD h (fun hc h => ?_) (fun hc h => ?_))
      · refine sm_W.run (sm_C_mono D) 1 (G := True) (fr' := (11, [some (.ref 41), some (.int x1)], [.int (0 : Int32)], 0, 0)) (M' := (I, J, sm_rf t d)) rfl trivial ?_
        cases h
        exact sm_W.ret (sm_C_mono D) rfl hQ
      · refine sm_W.run (sm_C_mono D) 2 (G := True) (fr' := (11, [some (.ref 41), some (.int x1)], [.int (1 : Int32)], 0, 0)) (M' := (I, J, sm_rf t d)) rfl trivial ?_
        cases h
        exact sm_W.ret (sm_C_mono D) rfl hQ
theorem T_Valley_isEvening {X : Nat × (Nat → Int32)} {t d D : Nat} {Q : sm_Q} {I : sm_MI} {J : sm_MJ} {p0 : Nat} {x1 : Int32} {rz : Int32}
    (hD : 1 ≤ D) (hp : (p0 = 21) ∨ (p0 = 41)) (h : F_Valley_isEvening p0 x1 I = some (rz)) (hQ : Q (.inl (some (.int rz))) (I, J, sm_rf t d)) : sm_C sm_sh X sm_P D 92 [.ref p0, .int x1] (I, J, sm_rf t d) Q := by
  cases D with
  | zero => omega
  | succ D => exact sm_C.of (me := me_92) (L := [some (.ref p0), some (.int x1)]) rfl rfl rfl (sm_W.forget (L' := [some (.ref p0), some (.int x1)]) ⟨rfl, ⟨rfl, trivial⟩⟩ (G_Valley_isEvening (by omega) hp h hQ))
-- 93 War_holdsFire
noncomputable def F_War_holdsFire (p0 : Nat) (p1 : Nat) (x2 : Int32) (I : sm_MI) : Option (Int32 × sm_MI) :=
  sd_q1 (F_Rules_has (p0 + 14) x2 I) fun r1 =>
  if ¬ r1 = 0 then
    sd_q1 (F_Valley_ofSide p0 x2 I) fun r2 =>
    sd_gu (sm_in (0 : Int32) 6 = true) <|
    sd_lt (sd_up I (p0 + 18) 0 (I p1 3)) fun I4 =>
    sd_gu (sm_in (1 : Int32) 6 = true) <|
    sd_lt (sd_up I4 (p0 + 18) 1 (I4 p1 4)) fun I6 =>
    sd_q1 (F_Int_bitCount (r2 &&& (I6 p1 0))) fun r7 =>
    sd_gu (sm_in (2 : Int32) 6 = true) <|
    sd_lt (sd_up I6 (p0 + 18) 2 r7) fun I9 =>
    sd_q1 (F_Valley_ofSide p0 ((1 : Int32) - x2) I9) fun r10 =>
    sd_q1 (F_Int_bitCount (r10 &&& (I9 p1 0))) fun r11 =>
    sd_gu (sm_in (3 : Int32) 6 = true) <|
    sd_lt (sd_up I9 (p0 + 18) 3 r11) fun I13 =>
    sd_q1 (F_Int_bitCount (r2 &&& (I13 p1 2))) fun r14 =>
    sd_gu (sm_in (4 : Int32) 6 = true) <|
    sd_lt (sd_up I13 (p0 + 18) 4 r14) fun I16 =>
    sd_q1 (F_Valley_singable p0 (I16 p1 0) I16) fun r17 =>
    sd_q1 (F_Int_bitCount r17) fun r18 =>
    sd_gu (sm_in (5 : Int32) 6 = true) <|
    sd_lt (sd_up I16 (p0 + 18) 5 r18) fun I20 =>
    sd_q2 (F_Rules_result (p0 + 14) x2 I20) fun r21 I22 =>
    if r21 ≤ 0 then
      some ((0 : Int32), I22)
    else
      some ((1 : Int32), I22)
  else
    some ((0 : Int32), I)
theorem G_War_holdsFire {X : Nat × (Nat → Int32)} {t d D : Nat} {Q : sm_Q} {I : sm_MI} {J : sm_MJ} {p0 : Nat} {p1 : Nat} {x2 : Int32} {rz : Int32} {Iz : sm_MI}
    (hD : 3 ≤ D) (hp : (p0 = 21 ∧ p1 = 9) ∨ (p0 = 21 ∧ p1 = 20) ∨ (p0 = 41 ∧ p1 = 9) ∨ (p0 = 41 ∧ p1 = 20)) (h : F_War_holdsFire p0 p1 x2 I = some (rz, Iz)) (hQ : Q (.inl (some (.int rz))) (Iz, J, sm_rf t d))  : sm_W sm_sh X (sm_C sm_sh X sm_P D) me_93 Q (0, [some (.ref p0), some (.ref p1), some (.int x2), none, none, none], [], 0, 0) (I, J, sm_rf t d) := by
  unfold F_War_holdsFire at h
  rcases hp with ⟨rfl, rfl⟩ | ⟨rfl, rfl⟩ | ⟨rfl, rfl⟩ | ⟨rfl, rfl⟩
  · skip
    refine sm_W.run (sm_C_mono D) 5 (G := True) (fr' := (5, [some (.ref 21), some (.ref 9), some (.int x2), some (.ref (21 + 14)), none, none], [.int x2, .ref (21 + 14)], 0, 0)) (M' := (I, J, sm_rf t d)) rfl trivial ?_
    obtain ⟨r1, hc, h⟩ := sd_q1_go h
    refine sm_W.cal (sm_C_mono D) (y := 53) (as := [.ref (21 + 14), .int x2]) (fr' := (6, [some (.ref 21), some (.ref 9), some (.int x2), some (.ref (21 + 14)), none, none], [], 0, 0)) rfl (T_Rules_has (by omega) (by decide) hc ?_)
    show sm_W sm_sh X (sm_C sm_sh X sm_P D) me_93 Q (6, [some (.ref 21), some (.ref 9), some (.int x2), some (.ref (21 + 14)), none, none], [.int r1], 0, 0) (I, J, sm_rf t d)
    refine sm_W.run (sm_C_mono D) 1 (G := True) (fr' := (if decide (¬ r1 = 0) = true then 9 else 7, [some (.ref 21), some (.ref 9), some (.int x2), some (.ref (21 + 14)), none, none], [], 0, 0)) (M' := (I, J, sm_rf t d)) rfl trivial (sm_W.iteD h (fun hc h => ?_) (fun hc h => ?_))
    · refine sm_W.run (sm_C_mono D) 2 (G := True) (fr' := (11, [some (.ref 21), some (.ref 9), some (.int x2), some (.ref (21 + 14)), none, none], [.int x2, .ref 21], 0, 0)) (M' := (I, J, sm_rf t d)) rfl trivial ?_
      obtain ⟨r2, hc, h⟩ := sd_q1_go h
      refine sm_W.cal (sm_C_mono D) (y := 83) (as := [.ref 21, .int x2]) (fr' := (12, [some (.ref 21), some (.ref 9), some (.int x2), some (.ref (21 + 14)), none, none], [], 0, 0)) rfl (T_Valley_ofSide (by omega) (by decide) hc ?_)
      show sm_W sm_sh X (sm_C sm_sh X sm_P D) me_93 Q (12, [some (.ref 21), some (.ref 9), some (.int x2), some (.ref (21 + 14)), none, none], [.int r2], 0, 0) (I, J, sm_rf t d)
      obtain ⟨g3, h⟩ := sd_gu_go h
      refine sm_W.runL (sm_C_mono D) 9 (G := sm_in (0 : Int32) 6 = true ∧ True) (e := (sd_up I (21 + 18) 0 (I 9 3))) (fr' := fun _ => (21, [some (.ref 21), some (.ref 9), some (.int x2), some (.ref (21 + 14)), some (.int r2), some (.ref (21 + 18))], [], 0, 0)) (M' := fun I4 => (I4, J, sm_rf t d)) rfl h ⟨g3, trivial⟩ (fun I4 h => ?_)
      obtain ⟨g5, h⟩ := sd_gu_go h
      refine sm_W.runL (sm_C_mono D) 5 (G := sm_in (1 : Int32) 6 = true ∧ True) (e := (sd_up I4 (21 + 18) 1 (I4 9 4))) (fr' := fun _ => (26, [some (.ref 21), some (.ref 9), some (.int x2), some (.ref (21 + 14)), some (.int r2), some (.ref (21 + 18))], [], 0, 0)) (M' := fun I6 => (I6, J, sm_rf t d)) rfl h ⟨g5, trivial⟩ (fun I6 h => ?_)
      refine sm_W.run (sm_C_mono D) 6 (G := True) (fr' := (32, [some (.ref 21), some (.ref 9), some (.int x2), some (.ref (21 + 14)), some (.int r2), some (.ref (21 + 18))], [.int (r2 &&& (I6 9 0)), .int (2 : Int32), .ref (21 + 18)], 0, 0)) (M' := (I6, J, sm_rf t d)) rfl trivial ?_
      obtain ⟨r7, hc, h⟩ := sd_q1_go h
      refine sm_W.cal (sm_C_mono D) (y := 268) (as := [.int (r2 &&& (I6 9 0))]) (fr' := (33, [some (.ref 21), some (.ref 9), some (.int x2), some (.ref (21 + 14)), some (.int r2), some (.ref (21 + 18))], [.int (2 : Int32), .ref (21 + 18)], 0, 0)) rfl (T_Int_bitCount (by omega) hc ?_)
      show sm_W sm_sh X (sm_C sm_sh X sm_P D) me_93 Q (33, [some (.ref 21), some (.ref 9), some (.int x2), some (.ref (21 + 14)), some (.int r2), some (.ref (21 + 18))], [.int r7, .int (2 : Int32), .ref (21 + 18)], 0, 0) (I6, J, sm_rf t d)
      obtain ⟨g8, h⟩ := sd_gu_go h
      refine sm_W.runL (sm_C_mono D) 1 (G := sm_in (2 : Int32) 6 = true ∧ True) (e := (sd_up I6 (21 + 18) 2 r7)) (fr' := fun _ => (34, [some (.ref 21), some (.ref 9), some (.int x2), some (.ref (21 + 14)), some (.int r2), some (.ref (21 + 18))], [], 0, 0)) (M' := fun I9 => (I9, J, sm_rf t d)) rfl h ⟨g8, trivial⟩ (fun I9 h => ?_)
      refine sm_W.run (sm_C_mono D) 6 (G := True) (fr' := (40, [some (.ref 21), some (.ref 9), some (.int x2), some (.ref (21 + 14)), some (.int r2), some (.ref (21 + 18))], [.int ((1 : Int32) - x2), .ref 21, .int (3 : Int32), .ref (21 + 18)], 0, 0)) (M' := (I9, J, sm_rf t d)) rfl trivial ?_
      obtain ⟨r10, hc, h⟩ := sd_q1_go h
      refine sm_W.cal (sm_C_mono D) (y := 83) (as := [.ref 21, .int ((1 : Int32) - x2)]) (fr' := (41, [some (.ref 21), some (.ref 9), some (.int x2), some (.ref (21 + 14)), some (.int r2), some (.ref (21 + 18))], [.int (3 : Int32), .ref (21 + 18)], 0, 0)) rfl (T_Valley_ofSide (by omega) (by decide) hc ?_)
      show sm_W sm_sh X (sm_C sm_sh X sm_P D) me_93 Q (41, [some (.ref 21), some (.ref 9), some (.int x2), some (.ref (21 + 14)), some (.int r2), some (.ref (21 + 18))], [.int r10, .int (3 : Int32), .ref (21 + 18)], 0, 0) (I9, J, sm_rf t d)
      refine sm_W.run (sm_C_mono D) 3 (G := True) (fr' := (44, [some (.ref 21), some (.ref 9), some (.int x2), some (.ref (21 + 14)), some (.int r2), some (.ref (21 + 18))], [.int (r10 &&& (I9 9 0)), .int (3 : Int32), .ref (21 + 18)], 0, 0)) (M' := (I9, J, sm_rf t d)) rfl trivial ?_
      obtain ⟨r11, hc, h⟩ := sd_q1_go h
      refine sm_W.cal (sm_C_mono D) (y := 268) (as := [.int (r10 &&& (I9 9 0))]) (fr' := (45, [some (.ref 21), some (.ref 9), some (.int x2), some (.ref (21 + 14)), some (.int r2), some (.ref (21 + 18))], [.int (3 : Int32), .ref (21 + 18)], 0, 0)) rfl (T_Int_bitCount (by omega) hc ?_)
      show sm_W sm_sh X (sm_C sm_sh X sm_P D) me_93 Q (45, [some (.ref 21), some (.ref 9), some (.int x2), some (.ref (21 + 14)), some (.int r2), some (.ref (21 + 18))], [.int r11, .int (3 : Int32), .ref (21 + 18)], 0, 0) (I9, J, sm_rf t d)
      obtain ⟨g12, h⟩ := sd_gu_go h
      refine sm_W.runL (sm_C_mono D) 1 (G := sm_in (3 : Int32) 6 = true ∧ True) (e := (sd_up I9 (21 + 18) 3 r11)) (fr' := fun _ => (46, [some (.ref 21), some (.ref 9), some (.int x2), some (.ref (21 + 14)), some (.int r2), some (.ref (21 + 18))], [], 0, 0)) (M' := fun I13 => (I13, J, sm_rf t d)) rfl h ⟨g12, trivial⟩ (fun I13 h => ?_)
      refine sm_W.run (sm_C_mono D) 6 (G := True) (fr' := (52, [some (.ref 21), some (.ref 9), some (.int x2), some (.ref (21 + 14)), some (.int r2), some (.ref (21 + 18))], [.int (r2 &&& (I13 9 2)), .int (4 : Int32), .ref (21 + 18)], 0, 0)) (M' := (I13, J, sm_rf t d)) rfl trivial ?_
      obtain ⟨r14, hc, h⟩ := sd_q1_go h
      refine sm_W.cal (sm_C_mono D) (y := 268) (as := [.int (r2 &&& (I13 9 2))]) (fr' := (53, [some (.ref 21), some (.ref 9), some (.int x2), some (.ref (21 + 14)), some (.int r2), some (.ref (21 + 18))], [.int (4 : Int32), .ref (21 + 18)], 0, 0)) rfl (T_Int_bitCount (by omega) hc ?_)
      show sm_W sm_sh X (sm_C sm_sh X sm_P D) me_93 Q (53, [some (.ref 21), some (.ref 9), some (.int x2), some (.ref (21 + 14)), some (.int r2), some (.ref (21 + 18))], [.int r14, .int (4 : Int32), .ref (21 + 18)], 0, 0) (I13, J, sm_rf t d)
      obtain ⟨g15, h⟩ := sd_gu_go h
      refine sm_W.runL (sm_C_mono D) 1 (G := sm_in (4 : Int32) 6 = true ∧ True) (e := (sd_up I13 (21 + 18) 4 r14)) (fr' := fun _ => (54, [some (.ref 21), some (.ref 9), some (.int x2), some (.ref (21 + 14)), some (.int r2), some (.ref (21 + 18))], [], 0, 0)) (M' := fun I16 => (I16, J, sm_rf t d)) rfl h ⟨g15, trivial⟩ (fun I16 h => ?_)
      refine sm_W.run (sm_C_mono D) 5 (G := True) (fr' := (59, [some (.ref 21), some (.ref 9), some (.int x2), some (.ref (21 + 14)), some (.int r2), some (.ref (21 + 18))], [.int (I16 9 0), .ref 21, .int (5 : Int32), .ref (21 + 18)], 0, 0)) (M' := (I16, J, sm_rf t d)) rfl trivial ?_
      obtain ⟨r17, hc, h⟩ := sd_q1_go h
      refine sm_W.cal (sm_C_mono D) (y := 89) (as := [.ref 21, .int (I16 9 0)]) (fr' := (60, [some (.ref 21), some (.ref 9), some (.int x2), some (.ref (21 + 14)), some (.int r2), some (.ref (21 + 18))], [.int (5 : Int32), .ref (21 + 18)], 0, 0)) rfl (T_Valley_singable (by omega) (by decide) hc ?_)
      show sm_W sm_sh X (sm_C sm_sh X sm_P D) me_93 Q (60, [some (.ref 21), some (.ref 9), some (.int x2), some (.ref (21 + 14)), some (.int r2), some (.ref (21 + 18))], [.int r17, .int (5 : Int32), .ref (21 + 18)], 0, 0) (I16, J, sm_rf t d)
      obtain ⟨r18, hc, h⟩ := sd_q1_go h
      refine sm_W.cal (sm_C_mono D) (y := 268) (as := [.int r17]) (fr' := (61, [some (.ref 21), some (.ref 9), some (.int x2), some (.ref (21 + 14)), some (.int r2), some (.ref (21 + 18))], [.int (5 : Int32), .ref (21 + 18)], 0, 0)) rfl (T_Int_bitCount (by omega) hc ?_)
      show sm_W sm_sh X (sm_C sm_sh X sm_P D) me_93 Q (61, [some (.ref 21), some (.ref 9), some (.int x2), some (.ref (21 + 14)), some (.int r2), some (.ref (21 + 18))], [.int r18, .int (5 : Int32), .ref (21 + 18)], 0, 0) (I16, J, sm_rf t d)
      obtain ⟨g19, h⟩ := sd_gu_go h
      refine sm_W.runL (sm_C_mono D) 1 (G := sm_in (5 : Int32) 6 = true ∧ True) (e := (sd_up I16 (21 + 18) 5 r18)) (fr' := fun _ => (62, [some (.ref 21), some (.ref 9), some (.int x2), some (.ref (21 + 14)), some (.int r2), some (.ref (21 + 18))], [], 0, 0)) (M' := fun I20 => (I20, J, sm_rf t d)) rfl h ⟨g19, trivial⟩ (fun I20 h => ?_)
      refine sm_W.run (sm_C_mono D) 2 (G := True) (fr' := (64, [some (.ref 21), some (.ref 9), some (.int x2), some (.ref (21 + 14)), some (.int r2), some (.ref (21 + 18))], [.int x2, .ref (21 + 14)], 0, 0)) (M' := (I20, J, sm_rf t d)) rfl trivial ?_
      obtain ⟨r21, I22, hc, h⟩ := sd_q2_go h
      refine sm_W.cal (sm_C_mono D) (y := 54) (as := [.ref (21 + 14), .int x2]) (fr' := (65, [some (.ref 21), some (.ref 9), some (.int x2), some (.ref (21 + 14)), some (.int r2), some (.ref (21 + 18))], [], 0, 0)) rfl (T_Rules_result (by omega) (by decide) hc ?_)
      show sm_W sm_sh X (sm_C sm_sh X sm_P D) me_93 Q (65, [some (.ref 21), some (.ref 9), some (.int x2), some (.ref (21 + 14)), some (.int r2), some (.ref (21 + 18))], [.int r21], 0, 0) (I22, J, sm_rf t d)
      refine sm_W.run (sm_C_mono D) 1 (G := True) (fr' := (if decide (r21 ≤ 0) = true then 68 else 66, [some (.ref 21), some (.ref 9), some (.int x2), some (.ref (21 + 14)), some (.int r2), some (.ref (21 + 18))], [], 0, 0)) (M' := (I22, J, sm_rf t d)) rfl trivial (sm_W.iteD h (fun hc h => ?_) (fun hc h => ?_))
      · refine sm_W.run (sm_C_mono D) 1 (G := True) (fr' := (69, [some (.ref 21), some (.ref 9), some (.int x2), some (.ref (21 + 14)), some (.int r2), some (.ref (21 + 18))], [.int (0 : Int32)], 0, 0)) (M' := (I22, J, sm_rf t d)) rfl trivial ?_
        cases h
        exact sm_W.ret (sm_C_mono D) rfl hQ
      · refine sm_W.run (sm_C_mono D) 2 (G := True) (fr' := (69, [some (.ref 21), some (.ref 9), some (.int x2), some (.ref (21 + 14)), some (.int r2), some (.ref (21 + 18))], [.int (1 : Int32)], 0, 0)) (M' := (I22, J, sm_rf t d)) rfl trivial ?_
        cases h
        exact sm_W.ret (sm_C_mono D) rfl hQ
    · refine sm_W.run (sm_C_mono D) 1 (G := True) (fr' := (8, [some (.ref 21), some (.ref 9), some (.int x2), some (.ref (21 + 14)), none, none], [.int (0 : Int32)], 0, 0)) (M' := (I, J, sm_rf t d)) rfl trivial ?_
      cases h
      exact sm_W.ret (sm_C_mono D) rfl hQ
  · skip
    refine sm_W.run (sm_C_mono D) 5 (G := True) (fr' := (5, [some (.ref 21), some (.ref 20), some (.int x2), some (.ref (21 + 14)), none, none], [.int x2, .ref (21 + 14)], 0, 0)) (M' := (I, J, sm_rf t d)) rfl trivial ?_
    obtain ⟨r1, hc, h⟩ := sd_q1_go h
    refine sm_W.cal (sm_C_mono D) (y := 53) (as := [.ref (21 + 14), .int x2]) (fr' := (6, [some (.ref 21), some (.ref 20), some (.int x2), some (.ref (21 + 14)), none, none], [], 0, 0)) rfl (T_Rules_has (by omega) (by decide) hc ?_)
    show sm_W sm_sh X (sm_C sm_sh X sm_P D) me_93 Q (6, [some (.ref 21), some (.ref 20), some (.int x2), some (.ref (21 + 14)), none, none], [.int r1], 0, 0) (I, J, sm_rf t d)
    refine sm_W.run (sm_C_mono D) 1 (G := True) (fr' := (if decide (¬ r1 = 0) = true then 9 else 7, [some (.ref 21), some (.ref 20), some (.int x2), some (.ref (21 + 14)), none, none], [], 0, 0)) (M' := (I, J, sm_rf t d)) rfl trivial (sm_W.iteD h (fun hc h => ?_) (fun hc h => ?_))
    · refine sm_W.run (sm_C_mono D) 2 (G := True) (fr' := (11, [some (.ref 21), some (.ref 20), some (.int x2), some (.ref (21 + 14)), none, none], [.int x2, .ref 21], 0, 0)) (M' := (I, J, sm_rf t d)) rfl trivial ?_
      obtain ⟨r2, hc, h⟩ := sd_q1_go h
      refine sm_W.cal (sm_C_mono D) (y := 83) (as := [.ref 21, .int x2]) (fr' := (12, [some (.ref 21), some (.ref 20), some (.int x2), some (.ref (21 + 14)), none, none], [], 0, 0)) rfl (T_Valley_ofSide (by omega) (by decide) hc ?_)
      show sm_W sm_sh X (sm_C sm_sh X sm_P D) me_93 Q (12, [some (.ref 21), some (.ref 20), some (.int x2), some (.ref (21 + 14)), none, none], [.int r2], 0, 0) (I, J, sm_rf t d)
      obtain ⟨g3, h⟩ := sd_gu_go h
      refine sm_W.runL (sm_C_mono D) 9 (G := sm_in (0 : Int32) 6 = true ∧ True) (e := (sd_up I (21 + 18) 0 (I 20 3))) (fr' := fun _ => (21, [some (.ref 21), some (.ref 20), some (.int x2), some (.ref (21 + 14)), some (.int r2), some (.ref (21 + 18))], [], 0, 0)) (M' := fun I4 => (I4, J, sm_rf t d)) rfl h ⟨g3, trivial⟩ (fun I4 h => ?_)
      obtain ⟨g5, h⟩ := sd_gu_go h
      refine sm_W.runL (sm_C_mono D) 5 (G := sm_in (1 : Int32) 6 = true ∧ True) (e := (sd_up I4 (21 + 18) 1 (I4 20 4))) (fr' := fun _ => (26, [some (.ref 21), some (.ref 20), some (.int x2), some (.ref (21 + 14)), some (.int r2), some (.ref (21 + 18))], [], 0, 0)) (M' := fun I6 => (I6, J, sm_rf t d)) rfl h ⟨g5, trivial⟩ (fun I6 h => ?_)
      refine sm_W.run (sm_C_mono D) 6 (G := True) (fr' := (32, [some (.ref 21), some (.ref 20), some (.int x2), some (.ref (21 + 14)), some (.int r2), some (.ref (21 + 18))], [.int (r2 &&& (I6 20 0)), .int (2 : Int32), .ref (21 + 18)], 0, 0)) (M' := (I6, J, sm_rf t d)) rfl trivial ?_
      obtain ⟨r7, hc, h⟩ := sd_q1_go h
      refine sm_W.cal (sm_C_mono D) (y := 268) (as := [.int (r2 &&& (I6 20 0))]) (fr' := (33, [some (.ref 21), some (.ref 20), some (.int x2), some (.ref (21 + 14)), some (.int r2), some (.ref (21 + 18))], [.int (2 : Int32), .ref (21 + 18)], 0, 0)) rfl (T_Int_bitCount (by omega) hc ?_)
      show sm_W sm_sh X (sm_C sm_sh X sm_P D) me_93 Q (33, [some (.ref 21), some (.ref 20), some (.int x2), some (.ref (21 + 14)), some (.int r2), some (.ref (21 + 18))], [.int r7, .int (2 : Int32), .ref (21 + 18)], 0, 0) (I6, J, sm_rf t d)
      obtain ⟨g8, h⟩ := sd_gu_go h
      refine sm_W.runL (sm_C_mono D) 1 (G := sm_in (2 : Int32) 6 = true ∧ True) (e := (sd_up I6 (21 + 18) 2 r7)) (fr' := fun _ => (34, [some (.ref 21), some (.ref 20), some (.int x2), some (.ref (21 + 14)), some (.int r2), some (.ref (21 + 18))], [], 0, 0)) (M' := fun I9 => (I9, J, sm_rf t d)) rfl h ⟨g8, trivial⟩ (fun I9 h => ?_)
      refine sm_W.run (sm_C_mono D) 6 (G := True) (fr' := (40, [some (.ref 21), some (.ref 20), some (.int x2), some (.ref (21 + 14)), some (.int r2), some (.ref (21 + 18))], [.int ((1 : Int32) - x2), .ref 21, .int (3 : Int32), .ref (21 + 18)], 0, 0)) (M' := (I9, J, sm_rf t d)) rfl trivial ?_
      obtain ⟨r10, hc, h⟩ := sd_q1_go h
      refine sm_W.cal (sm_C_mono D) (y := 83) (as := [.ref 21, .int ((1 : Int32) - x2)]) (fr' := (41, [some (.ref 21), some (.ref 20), some (.int x2), some (.ref (21 + 14)), some (.int r2), some (.ref (21 + 18))], [.int (3 : Int32), .ref (21 + 18)], 0, 0)) rfl (T_Valley_ofSide (by omega) (by decide) hc ?_)
      show sm_W sm_sh X (sm_C sm_sh X sm_P D) me_93 Q (41, [some (.ref 21), some (.ref 20), some (.int x2), some (.ref (21 + 14)), some (.int r2), some (.ref (21 + 18))], [.int r10, .int (3 : Int32), .ref (21 + 18)], 0, 0) (I9, J, sm_rf t d)
      refine sm_W.run (sm_C_mono D) 3 (G := True) (fr' := (44, [some (.ref 21), some (.ref 20), some (.int x2), some (.ref (21 + 14)), some (.int r2), some (.ref (21 + 18))], [.int (r10 &&& (I9 20 0)), .int (3 : Int32), .ref (21 + 18)], 0, 0)) (M' := (I9, J, sm_rf t d)) rfl trivial ?_
      obtain ⟨r11, hc, h⟩ := sd_q1_go h
      refine sm_W.cal (sm_C_mono D) (y := 268) (as := [.int (r10 &&& (I9 20 0))]) (fr' := (45, [some (.ref 21), some (.ref 20), some (.int x2), some (.ref (21 + 14)), some (.int r2), some (.ref (21 + 18))], [.int (3 : Int32), .ref (21 + 18)], 0, 0)) rfl (T_Int_bitCount (by omega) hc ?_)
      show sm_W sm_sh X (sm_C sm_sh X sm_P D) me_93 Q (45, [some (.ref 21), some (.ref 20), some (.int x2), some (.ref (21 + 14)), some (.int r2), some (.ref (21 + 18))], [.int r11, .int (3 : Int32), .ref (21 + 18)], 0, 0) (I9, J, sm_rf t d)
      obtain ⟨g12, h⟩ := sd_gu_go h
      refine sm_W.runL (sm_C_mono D) 1 (G := sm_in (3 : Int32) 6 = true ∧ True) (e := (sd_up I9 (21 + 18) 3 r11)) (fr' := fun _ => (46, [some (.ref 21), some (.ref 20), some (.int x2), some (.ref (21 + 14)), some (.int r2), some (.ref (21 + 18))], [], 0, 0)) (M' := fun I13 => (I13, J, sm_rf t d)) rfl h ⟨g12, trivial⟩ (fun I13 h => ?_)
      refine sm_W.run (sm_C_mono D) 6 (G := True) (fr' := (52, [some (.ref 21), some (.ref 20), some (.int x2), some (.ref (21 + 14)), some (.int r2), some (.ref (21 + 18))], [.int (r2 &&& (I13 20 2)), .int (4 : Int32), .ref (21 + 18)], 0, 0)) (M' := (I13, J, sm_rf t d)) rfl trivial ?_
      obtain ⟨r14, hc, h⟩ := sd_q1_go h
      refine sm_W.cal (sm_C_mono D) (y := 268) (as := [.int (r2 &&& (I13 20 2))]) (fr' := (53, [some (.ref 21), some (.ref 20), some (.int x2), some (.ref (21 + 14)), some (.int r2), some (.ref (21 + 18))], [.int (4 : Int32), .ref (21 + 18)], 0, 0)) rfl (T_Int_bitCount (by omega) hc ?_)
      show sm_W sm_sh X (sm_C sm_sh X sm_P D) me_93 Q (53, [some (.ref 21), some (.ref 20), some (.int x2), some (.ref (21 + 14)), some (.int r2), some (.ref (21 + 18))], [.int r14, .int (4 : Int32), .ref (21 + 18)], 0, 0) (I13, J, sm_rf t d)
      obtain ⟨g15, h⟩ := sd_gu_go h
      refine sm_W.runL (sm_C_mono D) 1 (G := sm_in (4 : Int32) 6 = true ∧ True) (e := (sd_up I13 (21 + 18) 4 r14)) (fr' := fun _ => (54, [some (.ref 21), some (.ref 20), some (.int x2), some (.ref (21 + 14)), some (.int r2), some (.ref (21 + 18))], [], 0, 0)) (M' := fun I16 => (I16, J, sm_rf t d)) rfl h ⟨g15, trivial⟩ (fun I16 h => ?_)
      refine sm_W.run (sm_C_mono D) 5 (G := True) (fr' := (59, [some (.ref 21), some (.ref 20), some (.int x2), some (.ref (21 + 14)), some (.int r2), some (.ref (21 + 18))], [.int (I16 20 0), .ref 21, .int (5 : Int32), .ref (21 + 18)], 0, 0)) (M' := (I16, J, sm_rf t d)) rfl trivial ?_
      obtain ⟨r17, hc, h⟩ := sd_q1_go h
      refine sm_W.cal (sm_C_mono D) (y := 89) (as := [.ref 21, .int (I16 20 0)]) (fr' := (60, [some (.ref 21), some (.ref 20), some (.int x2), some (.ref (21 + 14)), some (.int r2), some (.ref (21 + 18))], [.int (5 : Int32), .ref (21 + 18)], 0, 0)) rfl (T_Valley_singable (by omega) (by decide) hc ?_)
      show sm_W sm_sh X (sm_C sm_sh X sm_P D) me_93 Q (60, [some (.ref 21), some (.ref 20), some (.int x2), some (.ref (21 + 14)), some (.int r2), some (.ref (21 + 18))], [.int r17, .int (5 : Int32), .ref (21 + 18)], 0, 0) (I16, J, sm_rf t d)
      obtain ⟨r18, hc, h⟩ := sd_q1_go h
      refine sm_W.cal (sm_C_mono D) (y := 268) (as := [.int r17]) (fr' := (61, [some (.ref 21), some (.ref 20), some (.int x2), some (.ref (21 + 14)), some (.int r2), some (.ref (21 + 18))], [.int (5 : Int32), .ref (21 + 18)], 0, 0)) rfl (T_Int_bitCount (by omega) hc ?_)
      show sm_W sm_sh X (sm_C sm_sh X sm_P D) me_93 Q (61, [some (.ref 21), some (.ref 20), some (.int x2), some (.ref (21 + 14)), some (.int r2), some (.ref (21 + 18))], [.int r18, .int (5 : Int32), .ref (21 + 18)], 0, 0) (I16, J, sm_rf t d)
      obtain ⟨g19, h⟩ := sd_gu_go h
      refine sm_W.runL (sm_C_mono D) 1 (G := sm_in (5 : Int32) 6 = true ∧ True) (e := (sd_up I16 (21 + 18) 5 r18)) (fr' := fun _ => (62, [some (.ref 21), some (.ref 20), some (.int x2), some (.ref (21 + 14)), some (.int r2), some (.ref (21 + 18))], [], 0, 0)) (M' := fun I20 => (I20, J, sm_rf t d)) rfl h ⟨g19, trivial⟩ (fun I20 h => ?_)
      refine sm_W.run (sm_C_mono D) 2 (G := True) (fr' := (64, [some (.ref 21), some (.ref 20), some (.int x2), some (.ref (21 + 14)), some (.int r2), some (.ref (21 + 18))], [.int x2, .ref (21 + 14)], 0, 0)) (M' := (I20, J, sm_rf t d)) rfl trivial ?_
      obtain ⟨r21, I22, hc, h⟩ := sd_q2_go h
      refine sm_W.cal (sm_C_mono D) (y := 54) (as := [.ref (21 + 14), .int x2]) (fr' := (65, [some (.ref 21), some (.ref 20), some (.int x2), some (.ref (21 + 14)), some (.int r2), some (.ref (21 + 18))], [], 0, 0)) rfl (T_Rules_result (by omega) (by decide) hc ?_)
      show sm_W sm_sh X (sm_C sm_sh X sm_P D) me_93 Q (65, [some (.ref 21), some (.ref 20), some (.int x2), some (.ref (21 + 14)), some (.int r2), some (.ref (21 + 18))], [.int r21], 0, 0) (I22, J, sm_rf t d)
      refine sm_W.run (sm_C_mono D) 1 (G := True) (fr' := (if decide (r21 ≤ 0) = true then 68 else 66, [some (.ref 21), some (.ref 20), some (.int x2), some (.ref (21 + 14)), some (.int r2), some (.ref (21 + 18))], [], 0, 0)) (M' := (I22, J, sm_rf t d)) rfl trivial (sm_W.iteD h (fun hc h => ?_) (fun hc h => ?_))
      · refine sm_W.run (sm_C_mono D) 1 (G := True) (fr' := (69, [some (.ref 21), some (.ref 20), some (.int x2), some (.ref (21 + 14)), some (.int r2), some (.ref (21 + 18))], [.int (0 : Int32)], 0, 0)) (M' := (I22, J, sm_rf t d)) rfl trivial ?_
        cases h
        exact sm_W.ret (sm_C_mono D) rfl hQ
      · refine sm_W.run (sm_C_mono D) 2 (G := True) (fr' := (69, [some (.ref 21), some (.ref 20), some (.int x2), some (.ref (21 + 14)), some (.int r2), some (.ref (21 + 18))], [.int (1 : Int32)], 0, 0)) (M' := (I22, J, sm_rf t d)) rfl trivial ?_
        cases h
        exact sm_W.ret (sm_C_mono D) rfl hQ
    · refine sm_W.run (sm_C_mono D) 1 (G := True) (fr' := (8, [some (.ref 21), some (.ref 20), some (.int x2), some (.ref (21 + 14)), none, none], [.int (0 : Int32)], 0, 0)) (M' := (I, J, sm_rf t d)) rfl trivial ?_
      cases h
      exact sm_W.ret (sm_C_mono D) rfl hQ
  · skip
    refine sm_W.run (sm_C_mono D) 5 (G := True) (fr' := (5, [some (.ref 41), some (.ref 9), some (.int x2), some (.ref (41 + 14)), none, none], [.int x2, .ref (41 + 14)], 0, 0)) (M' := (I, J, sm_rf t d)) rfl trivial ?_
    obtain ⟨r1, hc, h⟩ := sd_q1_go h
    refine sm_W.cal (sm_C_mono D) (y := 53) (as := [.ref (41 + 14), .int x2]) (fr' := (6, [some (.ref 41), some (.ref 9), some (.int x2), some (.ref (41 + 14)), none, none], [], 0, 0)) rfl (T_Rules_has (by omega) (by decide) hc ?_)
    show sm_W sm_sh X (sm_C sm_sh X sm_P D) me_93 Q (6, [some (.ref 41), some (.ref 9), some (.int x2), some (.ref (41 + 14)), none, none], [.int r1], 0, 0) (I, J, sm_rf t d)
    refine sm_W.run (sm_C_mono D) 1 (G := True) (fr' := (if decide (¬ r1 = 0) = true then 9 else 7, [some (.ref 41), some (.ref 9), some (.int x2), some (.ref (41 + 14)), none, none], [], 0, 0)) (M' := (I, J, sm_rf t d)) rfl trivial (sm_W.iteD h (fun hc h => ?_) (fun hc h => ?_))
    · refine sm_W.run (sm_C_mono D) 2 (G := True) (fr' := (11, [some (.ref 41), some (.ref 9), some (.int x2), some (.ref (41 + 14)), none, none], [.int x2, .ref 41], 0, 0)) (M' := (I, J, sm_rf t d)) rfl trivial ?_
      obtain ⟨r2, hc, h⟩ := sd_q1_go h
      refine sm_W.cal (sm_C_mono D) (y := 83) (as := [.ref 41, .int x2]) (fr' := (12, [some (.ref 41), some (.ref 9), some (.int x2), some (.ref (41 + 14)), none, none], [], 0, 0)) rfl (T_Valley_ofSide (by omega) (by decide) hc ?_)
      show sm_W sm_sh X (sm_C sm_sh X sm_P D) me_93 Q (12, [some (.ref 41), some (.ref 9), some (.int x2), some (.ref (41 + 14)), none, none], [.int r2], 0, 0) (I, J, sm_rf t d)
      obtain ⟨g3, h⟩ := sd_gu_go h
      refine sm_W.runL (sm_C_mono D) 9 (G := sm_in (0 : Int32) 6 = true ∧ True) (e := (sd_up I (41 + 18) 0 (I 9 3))) (fr' := fun _ => (21, [some (.ref 41), some (.ref 9), some (.int x2), some (.ref (41 + 14)), some (.int r2), some (.ref (41 + 18))], [], 0, 0)) (M' := fun I4 => (I4, J, sm_rf t d)) rfl h ⟨g3, trivial⟩ (fun I4 h => ?_)
      obtain ⟨g5, h⟩ := sd_gu_go h
      refine sm_W.runL (sm_C_mono D) 5 (G := sm_in (1 : Int32) 6 = true ∧ True) (e := (sd_up I4 (41 + 18) 1 (I4 9 4))) (fr' := fun _ => (26, [some (.ref 41), some (.ref 9), some (.int x2), some (.ref (41 + 14)), some (.int r2), some (.ref (41 + 18))], [], 0, 0)) (M' := fun I6 => (I6, J, sm_rf t d)) rfl h ⟨g5, trivial⟩ (fun I6 h => ?_)
      refine sm_W.run (sm_C_mono D) 6 (G := True) (fr' := (32, [some (.ref 41), some (.ref 9), some (.int x2), some (.ref (41 + 14)), some (.int r2), some (.ref (41 + 18))], [.int (r2 &&& (I6 9 0)), .int (2 : Int32), .ref (41 + 18)], 0, 0)) (M' := (I6, J, sm_rf t d)) rfl trivial ?_
      obtain ⟨r7, hc, h⟩ := sd_q1_go h
      refine sm_W.cal (sm_C_mono D) (y := 268) (as := [.int (r2 &&& (I6 9 0))]) (fr' := (33, [some (.ref 41), some (.ref 9), some (.int x2), some (.ref (41 + 14)), some (.int r2), some (.ref (41 + 18))], [.int (2 : Int32), .ref (41 + 18)], 0, 0)) rfl (T_Int_bitCount (by omega) hc ?_)
      show sm_W sm_sh X (sm_C sm_sh X sm_P D) me_93 Q (33, [some (.ref 41), some (.ref 9), some (.int x2), some (.ref (41 + 14)), some (.int r2), some (.ref (41 + 18))], [.int r7, .int (2 : Int32), .ref (41 + 18)], 0, 0) (I6, J, sm_rf t d)
      obtain ⟨g8, h⟩ := sd_gu_go h
      refine sm_W.runL (sm_C_mono D) 1 (G := sm_in (2 : Int32) 6 = true ∧ True) (e := (sd_up I6 (41 + 18) 2 r7)) (fr' := fun _ => (34, [some (.ref 41), some (.ref 9), some (.int x2), some (.ref (41 + 14)), some (.int r2), some (.ref (41 + 18))], [], 0, 0)) (M' := fun I9 => (I9, J, sm_rf t d)) rfl h ⟨g8, trivial⟩ (fun I9 h => ?_)
      refine sm_W.run (sm_C_mono D) 6 (G := True) (fr' := (40, [some (.ref 41), some (.ref 9), some (.int x2), some (.ref (41 + 14)), some (.int r2), some (.ref (41 + 18))], [.int ((1 : Int32) - x2), .ref 41, .int (3 : Int32), .ref (41 + 18)], 0, 0)) (M' := (I9, J, sm_rf t d)) rfl trivial ?_
      obtain ⟨r10, hc, h⟩ := sd_q1_go h
      refine sm_W.cal (sm_C_mono D) (y := 83) (as := [.ref 41, .int ((1 : Int32) - x2)]) (fr' := (41, [some (.ref 41), some (.ref 9), some (.int x2), some (.ref (41 + 14)), some (.int r2), some (.ref (41 + 18))], [.int (3 : Int32), .ref (41 + 18)], 0, 0)) rfl (T_Valley_ofSide (by omega) (by decide) hc ?_)
      show sm_W sm_sh X (sm_C sm_sh X sm_P D) me_93 Q (41, [some (.ref 41), some (.ref 9), some (.int x2), some (.ref (41 + 14)), some (.int r2), some (.ref (41 + 18))], [.int r10, .int (3 : Int32), .ref (41 + 18)], 0, 0) (I9, J, sm_rf t d)
      refine sm_W.run (sm_C_mono D) 3 (G := True) (fr' := (44, [some (.ref 41), some (.ref 9), some (.int x2), some (.ref (41 + 14)), some (.int r2), some (.ref (41 + 18))], [.int (r10 &&& (I9 9 0)), .int (3 : Int32), .ref (41 + 18)], 0, 0)) (M' := (I9, J, sm_rf t d)) rfl trivial ?_
      obtain ⟨r11, hc, h⟩ := sd_q1_go h
      refine sm_W.cal (sm_C_mono D) (y := 268) (as := [.int (r10 &&& (I9 9 0))]) (fr' := (45, [some (.ref 41), some (.ref 9), some (.int x2), some (.ref (41 + 14)), some (.int r2), some (.ref (41 + 18))], [.int (3 : Int32), .ref (41 + 18)], 0, 0)) rfl (T_Int_bitCount (by omega) hc ?_)
      show sm_W sm_sh X (sm_C sm_sh X sm_P D) me_93 Q (45, [some (.ref 41), some (.ref 9), some (.int x2), some (.ref (41 + 14)), some (.int r2), some (.ref (41 + 18))], [.int r11, .int (3 : Int32), .ref (41 + 18)], 0, 0) (I9, J, sm_rf t d)
      obtain ⟨g12, h⟩ := sd_gu_go h
      refine sm_W.runL (sm_C_mono D) 1 (G := sm_in (3 : Int32) 6 = true ∧ True) (e := (sd_up I9 (41 + 18) 3 r11)) (fr' := fun _ => (46, [some (.ref 41), some (.ref 9), some (.int x2), some (.ref (41 + 14)), some (.int r2), some (.ref (41 + 18))], [], 0, 0)) (M' := fun I13 => (I13, J, sm_rf t d)) rfl h ⟨g12, trivial⟩ (fun I13 h => ?_)
      refine sm_W.run (sm_C_mono D) 6 (G := True) (fr' := (52, [some (.ref 41), some (.ref 9), some (.int x2), some (.ref (41 + 14)), some (.int r2), some (.ref (41 + 18))], [.int (r2 &&& (I13 9 2)), .int (4 : Int32), .ref (41 + 18)], 0, 0)) (M' := (I13, J, sm_rf t d)) rfl trivial ?_
      obtain ⟨r14, hc, h⟩ := sd_q1_go h
      refine sm_W.cal (sm_C_mono D) (y := 268) (as := [.int (r2 &&& (I13 9 2))]) (fr' := (53, [some (.ref 41), some (.ref 9), some (.int x2), some (.ref (41 + 14)), some (.int r2), some (.ref (41 + 18))], [.int (4 : Int32), .ref (41 + 18)], 0, 0)) rfl (T_Int_bitCount (by omega) hc ?_)
      show sm_W sm_sh X (sm_C sm_sh X sm_P D) me_93 Q (53, [some (.ref 41), some (.ref 9), some (.int x2), some (.ref (41 + 14)), some (.int r2), some (.ref (41 + 18))], [.int r14, .int (4 : Int32), .ref (41 + 18)], 0, 0) (I13, J, sm_rf t d)
      obtain ⟨g15, h⟩ := sd_gu_go h
      refine sm_W.runL (sm_C_mono D) 1 (G := sm_in (4 : Int32) 6 = true ∧ True) (e := (sd_up I13 (41 + 18) 4 r14)) (fr' := fun _ => (54, [some (.ref 41), some (.ref 9), some (.int x2), some (.ref (41 + 14)), some (.int r2), some (.ref (41 + 18))], [], 0, 0)) (M' := fun I16 => (I16, J, sm_rf t d)) rfl h ⟨g15, trivial⟩ (fun I16 h => ?_)
      refine sm_W.run (sm_C_mono D) 5 (G := True) (fr' := (59, [some (.ref 41), some (.ref 9), some (.int x2), some (.ref (41 + 14)), some (.int r2), some (.ref (41 + 18))], [.int (I16 9 0), .ref 41, .int (5 : Int32), .ref (41 + 18)], 0, 0)) (M' := (I16, J, sm_rf t d)) rfl trivial ?_
      obtain ⟨r17, hc, h⟩ := sd_q1_go h
      refine sm_W.cal (sm_C_mono D) (y := 89) (as := [.ref 41, .int (I16 9 0)]) (fr' := (60, [some (.ref 41), some (.ref 9), some (.int x2), some (.ref (41 + 14)), some (.int r2), some (.ref (41 + 18))], [.int (5 : Int32), .ref (41 + 18)], 0, 0)) rfl (T_Valley_singable (by omega) (by decide) hc ?_)
      show sm_W sm_sh X (sm_C sm_sh X sm_P D) me_93 Q (60, [some (.ref 41), some (.ref 9), some (.int x2), some (.ref (41 + 14)), some (.int r2), some (.ref (41 + 18))], [.int r17, .int (5 : Int32), .ref (41 + 18)], 0, 0) (I16, J, sm_rf t d)
      obtain ⟨r18, hc, h⟩ := sd_q1_go h
      refine sm_W.cal (sm_C_mono D) (y := 268) (as := [.int r17]) (fr' := (61, [some (.ref 41), some (.ref 9), some (.int x2), some (.ref (41 + 14)), some (.int r2), some (.ref (41 + 18))], [.int (5 : Int32), .ref (41 + 18)], 0, 0)) rfl (T_Int_bitCount (by omega) hc ?_)
      show sm_W sm_sh X (sm_C sm_sh X sm_P D) me_93 Q (61, [some (.ref 41), some (.ref 9), some (.int x2), some (.ref (41 + 14)), some (.int r2), some (.ref (41 + 18))], [.int r18, .int (5 : Int32), .ref (41 + 18)], 0, 0) (I16, J, sm_rf t d)
      obtain ⟨g19, h⟩ := sd_gu_go h
      refine sm_W.runL (sm_C_mono D) 1 (G := sm_in (5 : Int32) 6 = true ∧ True) (e := (sd_up I16 (41 + 18) 5 r18)) (fr' := fun _ => (62, [some (.ref 41), some (.ref 9), some (.int x2), some (.ref (41 + 14)), some (.int r2), some (.ref (41 + 18))], [], 0, 0)) (M' := fun I20 => (I20, J, sm_rf t d)) rfl h ⟨g19, trivial⟩ (fun I20 h => ?_)
      refine sm_W.run (sm_C_mono D) 2 (G := True) (fr' := (64, [some (.ref 41), some (.ref 9), some (.int x2), some (.ref (41 + 14)), some (.int r2), some (.ref (41 + 18))], [.int x2, .ref (41 + 14)], 0, 0)) (M' := (I20, J, sm_rf t d)) rfl trivial ?_
      obtain ⟨r21, I22, hc, h⟩ := sd_q2_go h
      refine sm_W.cal (sm_C_mono D) (y := 54) (as := [.ref (41 + 14), .int x2]) (fr' := (65, [some (.ref 41), some (.ref 9), some (.int x2), some (.ref (41 + 14)), some (.int r2), some (.ref (41 + 18))], [], 0, 0)) rfl (T_Rules_result (by omega) (by decide) hc ?_)
      show sm_W sm_sh X (sm_C sm_sh X sm_P D) me_93 Q (65, [some (.ref 41), some (.ref 9), some (.int x2), some (.ref (41 + 14)), some (.int r2), some (.ref (41 + 18))], [.int r21], 0, 0) (I22, J, sm_rf t d)
      refine sm_W.run (sm_C_mono D) 1 (G := True) (fr' := (if decide (r21 ≤ 0) = true then 68 else 66, [some (.ref 41), some (.ref 9), some (.int x2), some (.ref (41 + 14)), some (.int r2), some (.ref (41 + 18))], [], 0, 0)) (M' := (I22, J, sm_rf t d)) rfl trivial (sm_W.iteD h (fun hc h => ?_) (fun hc h => ?_))
      · refine sm_W.run (sm_C_mono D) 1 (G := True) (fr' := (69, [some (.ref 41), some (.ref 9), some (.int x2), some (.ref (41 + 14)), some (.int r2), some (.ref (41 + 18))], [.int (0 : Int32)], 0, 0)) (M' := (I22, J, sm_rf t d)) rfl trivial ?_
        cases h
        exact sm_W.ret (sm_C_mono D) rfl hQ
      · refine sm_W.run (sm_C_mono D) 2 (G := True) (fr' := (69, [some (.ref 41), some (.ref 9), some (.int x2), some (.ref (41 + 14)), some (.int r2), some (.ref (41 + 18))], [.int (1 : Int32)], 0, 0)) (M' := (I22, J, sm_rf t d)) rfl trivial ?_
        cases h
        exact sm_W.ret (sm_C_mono D) rfl hQ
    · refine sm_W.run (sm_C_mono D) 1 (G := True) (fr' := (8, [some (.ref 41), some (.ref 9), some (.int x2), some (.ref (41 + 14)), none, none], [.int (0 : Int32)], 0, 0)) (M' := (I, J, sm_rf t d)) rfl trivial ?_
      cases h
      exact sm_W.ret (sm_C_mono D) rfl hQ
  · skip
    refine sm_W.run (sm_C_mono D) 5 (G := True) (fr' := (5, [some (.ref 41), some (.ref 20), some (.int x2), some (.ref (41 + 14)), none, none], [.int x2, .ref (41 + 14)], 0, 0)) (M' := (I, J, sm_rf t d)) rfl trivial ?_
    obtain ⟨r1, hc, h⟩ := sd_q1_go h
    refine sm_W.cal (sm_C_mono D) (y := 53) (as := [.ref (41 + 14), .int x2]) (fr' := (6, [some (.ref 41), some (.ref 20), some (.int x2), some (.ref (41 + 14)), none, none], [], 0, 0)) rfl (T_Rules_has (by omega) (by decide) hc ?_)
    show sm_W sm_sh X (sm_C sm_sh X sm_P D) me_93 Q (6, [some (.ref 41), some (.ref 20), some (.int x2), some (.ref (41 + 14)), none, none], [.int r1], 0, 0) (I, J, sm_rf t d)
    refine sm_W.run (sm_C_mono D) 1 (G := True) (fr' := (if decide (¬ r1 = 0) = true then 9 else 7, [some (.ref 41), some (.ref 20), some (.int x2), some (.ref (41 + 14)), none, none], [], 0, 0)) (M' := (I, J, sm_rf t d)) rfl trivial (sm_W.iteD h (fun hc h => ?_) (fun hc h => ?_))
    · refine sm_W.run (sm_C_mono D) 2 (G := True) (fr' := (11, [some (.ref 41), some (.ref 20), some (.int x2), some (.ref (41 + 14)), none, none], [.int x2, .ref 41], 0, 0)) (M' := (I, J, sm_rf t d)) rfl trivial ?_
      obtain ⟨r2, hc, h⟩ := sd_q1_go h
      refine sm_W.cal (sm_C_mono D) (y := 83) (as := [.ref 41, .int x2]) (fr' := (12, [some (.ref 41), some (.ref 20), some (.int x2), some (.ref (41 + 14)), none, none], [], 0, 0)) rfl (T_Valley_ofSide (by omega) (by decide) hc ?_)
      show sm_W sm_sh X (sm_C sm_sh X sm_P D) me_93 Q (12, [some (.ref 41), some (.ref 20), some (.int x2), some (.ref (41 + 14)), none, none], [.int r2], 0, 0) (I, J, sm_rf t d)
      obtain ⟨g3, h⟩ := sd_gu_go h
      refine sm_W.runL (sm_C_mono D) 9 (G := sm_in (0 : Int32) 6 = true ∧ True) (e := (sd_up I (41 + 18) 0 (I 20 3))) (fr' := fun _ => (21, [some (.ref 41), some (.ref 20), some (.int x2), some (.ref (41 + 14)), some (.int r2), some (.ref (41 + 18))], [], 0, 0)) (M' := fun I4 => (I4, J, sm_rf t d)) rfl h ⟨g3, trivial⟩ (fun I4 h => ?_)
      obtain ⟨g5, h⟩ := sd_gu_go h
      refine sm_W.runL (sm_C_mono D) 5 (G := sm_in (1 : Int32) 6 = true ∧ True) (e := (sd_up I4 (41 + 18) 1 (I4 20 4))) (fr' := fun _ => (26, [some (.ref 41), some (.ref 20), some (.int x2), some (.ref (41 + 14)), some (.int r2), some (.ref (41 + 18))], [], 0, 0)) (M' := fun I6 => (I6, J, sm_rf t d)) rfl h ⟨g5, trivial⟩ (fun I6 h => ?_)
      refine sm_W.run (sm_C_mono D) 6 (G := True) (fr' := (32, [some (.ref 41), some (.ref 20), some (.int x2), some (.ref (41 + 14)), some (.int r2), some (.ref (41 + 18))], [.int (r2 &&& (I6 20 0)), .int (2 : Int32), .ref (41 + 18)], 0, 0)) (M' := (I6, J, sm_rf t d)) rfl trivial ?_
      obtain ⟨r7, hc, h⟩ := sd_q1_go h
      refine sm_W.cal (sm_C_mono D) (y := 268) (as := [.int (r2 &&& (I6 20 0))]) (fr' := (33, [some (.ref 41), some (.ref 20), some (.int x2), some (.ref (41 + 14)), some (.int r2), some (.ref (41 + 18))], [.int (2 : Int32), .ref (41 + 18)], 0, 0)) rfl (T_Int_bitCount (by omega) hc ?_)
      show sm_W sm_sh X (sm_C sm_sh X sm_P D) me_93 Q (33, [some (.ref 41), some (.ref 20), some (.int x2), some (.ref (41 + 14)), some (.int r2), some (.ref (41 + 18))], [.int r7, .int (2 : Int32), .ref (41 + 18)], 0, 0) (I6, J, sm_rf t d)
      obtain ⟨g8, h⟩ := sd_gu_go h
      refine sm_W.runL (sm_C_mono D) 1 (G := sm_in (2 : Int32) 6 = true ∧ True) (e := (sd_up I6 (41 + 18) 2 r7)) (fr' := fun _ => (34, [some (.ref 41), some (.ref 20), some (.int x2), some (.ref (41 + 14)), some (.int r2), some (.ref (41 + 18))], [], 0, 0)) (M' := fun I9 => (I9, J, sm_rf t d)) rfl h ⟨g8, trivial⟩ (fun I9 h => ?_)
      refine sm_W.run (sm_C_mono D) 6 (G := True) (fr' := (40, [some (.ref 41), some (.ref 20), some (.int x2), some (.ref (41 + 14)), some (.int r2), some (.ref (41 + 18))], [.int ((1 : Int32) - x2), .ref 41, .int (3 : Int32), .ref (41 + 18)], 0, 0)) (M' := (I9, J, sm_rf t d)) rfl trivial ?_
      obtain ⟨r10, hc, h⟩ := sd_q1_go h
      refine sm_W.cal (sm_C_mono D) (y := 83) (as := [.ref 41, .int ((1 : Int32) - x2)]) (fr' := (41, [some (.ref 41), some (.ref 20), some (.int x2), some (.ref (41 + 14)), some (.int r2), some (.ref (41 + 18))], [.int (3 : Int32), .ref (41 + 18)], 0, 0)) rfl (T_Valley_ofSide (by omega) (by decide) hc ?_)
      show sm_W sm_sh X (sm_C sm_sh X sm_P D) me_93 Q (41, [some (.ref 41), some (.ref 20), some (.int x2), some (.ref (41 + 14)), some (.int r2), some (.ref (41 + 18))], [.int r10, .int (3 : Int32), .ref (41 + 18)], 0, 0) (I9, J, sm_rf t d)
      refine sm_W.run (sm_C_mono D) 3 (G := True) (fr' := (44, [some (.ref 41), some (.ref 20), some (.int x2), some (.ref (41 + 14)), some (.int r2), some (.ref (41 + 18))], [.int (r10 &&& (I9 20 0)), .int (3 : Int32), .ref (41 + 18)], 0, 0)) (M' := (I9, J, sm_rf t d)) rfl trivial ?_
      obtain ⟨r11, hc, h⟩ := sd_q1_go h
      refine sm_W.cal (sm_C_mono D) (y := 268) (as := [.int (r10 &&& (I9 20 0))]) (fr' := (45, [some (.ref 41), some (.ref 20), some (.int x2), some (.ref (41 + 14)), some (.int r2), some (.ref (41 + 18))], [.int (3 : Int32), .ref (41 + 18)], 0, 0)) rfl (T_Int_bitCount (by omega) hc ?_)
      show sm_W sm_sh X (sm_C sm_sh X sm_P D) me_93 Q (45, [some (.ref 41), some (.ref 20), some (.int x2), some (.ref (41 + 14)), some (.int r2), some (.ref (41 + 18))], [.int r11, .int (3 : Int32), .ref (41 + 18)], 0, 0) (I9, J, sm_rf t d)
      obtain ⟨g12, h⟩ := sd_gu_go h
      refine sm_W.runL (sm_C_mono D) 1 (G := sm_in (3 : Int32) 6 = true ∧ True) (e := (sd_up I9 (41 + 18) 3 r11)) (fr' := fun _ => (46, [some (.ref 41), some (.ref 20), some (.int x2), some (.ref (41 + 14)), some (.int r2), some (.ref (41 + 18))], [], 0, 0)) (M' := fun I13 => (I13, J, sm_rf t d)) rfl h ⟨g12, trivial⟩ (fun I13 h => ?_)
      refine sm_W.run (sm_C_mono D) 6 (G := True) (fr' := (52, [some (.ref 41), some (.ref 20), some (.int x2), some (.ref (41 + 14)), some (.int r2), some (.ref (41 + 18))], [.int (r2 &&& (I13 20 2)), .int (4 : Int32), .ref (41 + 18)], 0, 0)) (M' := (I13, J, sm_rf t d)) rfl trivial ?_
      obtain ⟨r14, hc, h⟩ := sd_q1_go h
      refine sm_W.cal (sm_C_mono D) (y := 268) (as := [.int (r2 &&& (I13 20 2))]) (fr' := (53, [some (.ref 41), some (.ref 20), some (.int x2), some (.ref (41 + 14)), some (.int r2), some (.ref (41 + 18))], [.int (4 : Int32), .ref (41 + 18)], 0, 0)) rfl (T_Int_bitCount (by omega) hc ?_)
      show sm_W sm_sh X (sm_C sm_sh X sm_P D) me_93 Q (53, [some (.ref 41), some (.ref 20), some (.int x2), some (.ref (41 + 14)), some (.int r2), some (.ref (41 + 18))], [.int r14, .int (4 : Int32), .ref (41 + 18)], 0, 0) (I13, J, sm_rf t d)
      obtain ⟨g15, h⟩ := sd_gu_go h
      refine sm_W.runL (sm_C_mono D) 1 (G := sm_in (4 : Int32) 6 = true ∧ True) (e := (sd_up I13 (41 + 18) 4 r14)) (fr' := fun _ => (54, [some (.ref 41), some (.ref 20), some (.int x2), some (.ref (41 + 14)), some (.int r2), some (.ref (41 + 18))], [], 0, 0)) (M' := fun I16 => (I16, J, sm_rf t d)) rfl h ⟨g15, trivial⟩ (fun I16 h => ?_)
      refine sm_W.run (sm_C_mono D) 5 (G := True) (fr' := (59, [some (.ref 41), some (.ref 20), some (.int x2), some (.ref (41 + 14)), some (.int r2), some (.ref (41 + 18))], [.int (I16 20 0), .ref 41, .int (5 : Int32), .ref (41 + 18)], 0, 0)) (M' := (I16, J, sm_rf t d)) rfl trivial ?_
      obtain ⟨r17, hc, h⟩ := sd_q1_go h
      refine sm_W.cal (sm_C_mono D) (y := 89) (as := [.ref 41, .int (I16 20 0)]) (fr' := (60, [some (.ref 41), some (.ref 20), some (.int x2), some (.ref (41 + 14)), some (.int r2), some (.ref (41 + 18))], [.int (5 : Int32), .ref (41 + 18)], 0, 0)) rfl (T_Valley_singable (by omega) (by decide) hc ?_)
      show sm_W sm_sh X (sm_C sm_sh X sm_P D) me_93 Q (60, [some (.ref 41), some (.ref 20), some (.int x2), some (.ref (41 + 14)), some (.int r2), some (.ref (41 + 18))], [.int r17, .int (5 : Int32), .ref (41 + 18)], 0, 0) (I16, J, sm_rf t d)
      obtain ⟨r18, hc, h⟩ := sd_q1_go h
      refine sm_W.cal (sm_C_mono D) (y := 268) (as := [.int r17]) (fr' := (61, [some (.ref 41), some (.ref 20), some (.int x2), some (.ref (41 + 14)), some (.int r2), some (.ref (41 + 18))], [.int (5 : Int32), .ref (41 + 18)], 0, 0)) rfl (T_Int_bitCount (by omega) hc ?_)
      show sm_W sm_sh X (sm_C sm_sh X sm_P D) me_93 Q (61, [some (.ref 41), some (.ref 20), some (.int x2), some (.ref (41 + 14)), some (.int r2), some (.ref (41 + 18))], [.int r18, .int (5 : Int32), .ref (41 + 18)], 0, 0) (I16, J, sm_rf t d)
      obtain ⟨g19, h⟩ := sd_gu_go h
      refine sm_W.runL (sm_C_mono D) 1 (G := sm_in (5 : Int32) 6 = true ∧ True) (e := (sd_up I16 (41 + 18) 5 r18)) (fr' := fun _ => (62, [some (.ref 41), some (.ref 20), some (.int x2), some (.ref (41 + 14)), some (.int r2), some (.ref (41 + 18))], [], 0, 0)) (M' := fun I20 => (I20, J, sm_rf t d)) rfl h ⟨g19, trivial⟩ (fun I20 h => ?_)
      refine sm_W.run (sm_C_mono D) 2 (G := True) (fr' := (64, [some (.ref 41), some (.ref 20), some (.int x2), some (.ref (41 + 14)), some (.int r2), some (.ref (41 + 18))], [.int x2, .ref (41 + 14)], 0, 0)) (M' := (I20, J, sm_rf t d)) rfl trivial ?_
      obtain ⟨r21, I22, hc, h⟩ := sd_q2_go h
      refine sm_W.cal (sm_C_mono D) (y := 54) (as := [.ref (41 + 14), .int x2]) (fr' := (65, [some (.ref 41), some (.ref 20), some (.int x2), some (.ref (41 + 14)), some (.int r2), some (.ref (41 + 18))], [], 0, 0)) rfl (T_Rules_result (by omega) (by decide) hc ?_)
      show sm_W sm_sh X (sm_C sm_sh X sm_P D) me_93 Q (65, [some (.ref 41), some (.ref 20), some (.int x2), some (.ref (41 + 14)), some (.int r2), some (.ref (41 + 18))], [.int r21], 0, 0) (I22, J, sm_rf t d)
      refine sm_W.run (sm_C_mono D) 1 (G := True) (fr' := (if decide (r21 ≤ 0) = true then 68 else 66, [some (.ref 41), some (.ref 20), some (.int x2), some (.ref (41 + 14)), some (.int r2), some (.ref (41 + 18))], [], 0, 0)) (M' := (I22, J, sm_rf t d)) rfl trivial (sm_W.iteD h (fun hc h => ?_) (fun hc h => ?_))
      · refine sm_W.run (sm_C_mono D) 1 (G := True) (fr' := (69, [some (.ref 41), some (.ref 20), some (.int x2), some (.ref (41 + 14)), some (.int r2), some (.ref (41 + 18))], [.int (0 : Int32)], 0, 0)) (M' := (I22, J, sm_rf t d)) rfl trivial ?_
        cases h
        exact sm_W.ret (sm_C_mono D) rfl hQ
      · refine sm_W.run (sm_C_mono D) 2 (G := True) (fr' := (69, [some (.ref 41), some (.ref 20), some (.int x2), some (.ref (41 + 14)), some (.int r2), some (.ref (41 + 18))], [.int (1 : Int32)], 0, 0)) (M' := (I22, J, sm_rf t d)) rfl trivial ?_
        cases h
        exact sm_W.ret (sm_C_mono D) rfl hQ
    · refine sm_W.run (sm_C_mono D) 1 (G := True) (fr' := (8, [some (.ref 41), some (.ref 20), some (.int x2), some (.ref (41 + 14)), none, none], [.int (0 : Int32)], 0, 0)) (M' := (I, J, sm_rf t d)) rfl trivial ?_
      cases h
      exact sm_W.ret (sm_C_mono D) rfl hQ
theorem T_War_holdsFire {X : Nat × (Nat → Int32)} {t d D : Nat} {Q : sm_Q} {I : sm_MI} {J : sm_MJ} {p0 : Nat} {p1 : Nat} {x2 : Int32} {rz : Int32} {Iz : sm_MI}
    (hD : 4 ≤ D) (hp : (p0 = 21 ∧ p1 = 9) ∨ (p0 = 21 ∧ p1 = 20) ∨ (p0 = 41 ∧ p1 = 9) ∨ (p0 = 41 ∧ p1 = 20)) (h : F_War_holdsFire p0 p1 x2 I = some (rz, Iz)) (hQ : Q (.inl (some (.int rz))) (Iz, J, sm_rf t d)) : sm_C sm_sh X sm_P D 93 [.ref p0, .ref p1, .int x2] (I, J, sm_rf t d) Q := by
  cases D with
  | zero => omega
  | succ D => exact sm_C.of (me := me_93) (L := [some (.ref p0), some (.ref p1), some (.int x2), none, none, none]) rfl rfl rfl (sm_W.forget (L' := [some (.ref p0), some (.ref p1), some (.int x2), none, none, none]) ⟨rfl, ⟨rfl, ⟨rfl, trivial⟩⟩⟩ (G_War_holdsFire (by omega) hp h hQ))
-- 95 War_worthOf
noncomputable def F_War_worthOf (p0 : Nat) (p1 : Nat) (x2 : Int32) (x3 : Int32) (I : sm_MI) : Option (Int32 × sm_MI) :=
  sd_lt ((2 : Int32) + x2) fun a1 =>
  sd_q1 (F_Rules_has (p0 + 14) a1 I) fun r2 =>
  if ¬ r2 = 0 then
    sd_gu (sm_in x3 14 = true) <|
    sd_lt (I (p0 + 2) (Int32.toNatClampNeg x3)) fun a4 =>
    sd_gu (sm_in x3 14 = true) <|
    sd_gu (sm_in (0 : Int32) 6 = true) <|
    sd_lt (sd_up I (p0 + 18) 0 (I (p0 + 5) (Int32.toNatClampNeg x3))) fun I7 =>
    sd_gu (sm_in (1 : Int32) 6 = true) <|
    sd_lt (sd_up I7 (p0 + 18) 1 a4) fun I9 =>
    sd_gu (sm_in (2 : Int32) 6 = true) <|
    sd_lt (sd_up I9 (p0 + 18) 2 x3) fun I11 =>
    sd_q1 (F_Valley_ofPart p0 a4 I11) fun r12 =>
    sd_q1 (F_Int_bitCount (r12 &&& (I11 p1 0))) fun r13 =>
    sd_gu (sm_in (3 : Int32) 6 = true) <|
    sd_lt (sd_up I11 (p0 + 18) 3 r13) fun I15 =>
    sd_q2 (F_Rules_result (p0 + 14) a1 I15) fun r16 I17 =>
    some (r16, I17)
  else
    sd_gu (sm_in x3 14 = true) <|
    some ((I (p0 + 5) (Int32.toNatClampNeg x3)), I)
theorem G_War_worthOf {X : Nat × (Nat → Int32)} {t d D : Nat} {Q : sm_Q} {I : sm_MI} {J : sm_MJ} {p0 : Nat} {p1 : Nat} {x2 : Int32} {x3 : Int32} {rz : Int32} {Iz : sm_MI}
    (hD : 2 ≤ D) (hp : (p0 = 21 ∧ p1 = 9) ∨ (p0 = 21 ∧ p1 = 20) ∨ (p0 = 41 ∧ p1 = 9) ∨ (p0 = 41 ∧ p1 = 20)) (h : F_War_worthOf p0 p1 x2 x3 I = some (rz, Iz)) (hQ : Q (.inl (some (.int rz))) (Iz, J, sm_rf t d))  : sm_W sm_sh X (sm_C sm_sh X sm_P D) me_95 Q (0, [some (.ref p0), some (.ref p1), some (.int x2), some (.int x3), none, none, none, none], [], 0, 0) (I, J, sm_rf t d) := by
  unfold F_War_worthOf at h
  rcases hp with ⟨rfl, rfl⟩ | ⟨rfl, rfl⟩ | ⟨rfl, rfl⟩ | ⟨rfl, rfl⟩
  · skip
    refine sm_W.runL (sm_C_mono D) 7 (G := True) (e := ((2 : Int32) + x2)) (fr' := fun a1 => (7, [some (.ref 21), some (.ref 9), some (.int x2), some (.int x3), some (.ref (21 + 14)), some (.int a1), none, none], [], 0, 0)) (M' := fun _ => (I, J, sm_rf t d)) rfl h trivial (fun a1 h => ?_)
    refine sm_W.run (sm_C_mono D) 2 (G := True) (fr' := (9, [some (.ref 21), some (.ref 9), some (.int x2), some (.int x3), some (.ref (21 + 14)), some (.int a1), none, none], [.int a1, .ref (21 + 14)], 0, 0)) (M' := (I, J, sm_rf t d)) rfl trivial ?_
    obtain ⟨r2, hc, h⟩ := sd_q1_go h
    refine sm_W.cal (sm_C_mono D) (y := 53) (as := [.ref (21 + 14), .int a1]) (fr' := (10, [some (.ref 21), some (.ref 9), some (.int x2), some (.int x3), some (.ref (21 + 14)), some (.int a1), none, none], [], 0, 0)) rfl (T_Rules_has (by omega) (by decide) hc ?_)
    show sm_W sm_sh X (sm_C sm_sh X sm_P D) me_95 Q (10, [some (.ref 21), some (.ref 9), some (.int x2), some (.int x3), some (.ref (21 + 14)), some (.int a1), none, none], [.int r2], 0, 0) (I, J, sm_rf t d)
    refine sm_W.run (sm_C_mono D) 1 (G := True) (fr' := (if decide (¬ r2 = 0) = true then 16 else 11, [some (.ref 21), some (.ref 9), some (.int x2), some (.int x3), some (.ref (21 + 14)), some (.int a1), none, none], [], 0, 0)) (M' := (I, J, sm_rf t d)) rfl trivial (sm_W.iteD h (fun hc h => ?_) (fun hc h => ?_))
    · obtain ⟨g3, h⟩ := sd_gu_go h
      refine sm_W.runL (sm_C_mono D) 5 (G := sm_in x3 14 = true ∧ True) (e := (I (21 + 2) (Int32.toNatClampNeg x3))) (fr' := fun a4 => (21, [some (.ref 21), some (.ref 9), some (.int x2), some (.int x3), some (.ref (21 + 14)), some (.int a1), some (.int a4), none], [], 0, 0)) (M' := fun _ => (I, J, sm_rf t d)) rfl h ⟨g3, trivial⟩ (fun a4 h => ?_)
      obtain ⟨g5, h⟩ := sd_gu_go h
      obtain ⟨g6, h⟩ := sd_gu_go h
      refine sm_W.runL (sm_C_mono D) 10 (G := sm_in x3 14 = true ∧ sm_in (0 : Int32) 6 = true ∧ True) (e := (sd_up I (21 + 18) 0 (I (21 + 5) (Int32.toNatClampNeg x3)))) (fr' := fun _ => (31, [some (.ref 21), some (.ref 9), some (.int x2), some (.int x3), some (.ref (21 + 14)), some (.int a1), some (.int a4), some (.ref (21 + 18))], [], 0, 0)) (M' := fun I7 => (I7, J, sm_rf t d)) rfl h ⟨g5, g6, trivial⟩ (fun I7 h => ?_)
      obtain ⟨g8, h⟩ := sd_gu_go h
      refine sm_W.runL (sm_C_mono D) 4 (G := sm_in (1 : Int32) 6 = true ∧ True) (e := (sd_up I7 (21 + 18) 1 a4)) (fr' := fun _ => (35, [some (.ref 21), some (.ref 9), some (.int x2), some (.int x3), some (.ref (21 + 14)), some (.int a1), some (.int a4), some (.ref (21 + 18))], [], 0, 0)) (M' := fun I9 => (I9, J, sm_rf t d)) rfl h ⟨g8, trivial⟩ (fun I9 h => ?_)
      obtain ⟨g10, h⟩ := sd_gu_go h
      refine sm_W.runL (sm_C_mono D) 4 (G := sm_in (2 : Int32) 6 = true ∧ True) (e := (sd_up I9 (21 + 18) 2 x3)) (fr' := fun _ => (39, [some (.ref 21), some (.ref 9), some (.int x2), some (.int x3), some (.ref (21 + 14)), some (.int a1), some (.int a4), some (.ref (21 + 18))], [], 0, 0)) (M' := fun I11 => (I11, J, sm_rf t d)) rfl h ⟨g10, trivial⟩ (fun I11 h => ?_)
      refine sm_W.run (sm_C_mono D) 4 (G := True) (fr' := (43, [some (.ref 21), some (.ref 9), some (.int x2), some (.int x3), some (.ref (21 + 14)), some (.int a1), some (.int a4), some (.ref (21 + 18))], [.int a4, .ref 21, .int (3 : Int32), .ref (21 + 18)], 0, 0)) (M' := (I11, J, sm_rf t d)) rfl trivial ?_
      obtain ⟨r12, hc, h⟩ := sd_q1_go h
      refine sm_W.cal (sm_C_mono D) (y := 84) (as := [.ref 21, .int a4]) (fr' := (44, [some (.ref 21), some (.ref 9), some (.int x2), some (.int x3), some (.ref (21 + 14)), some (.int a1), some (.int a4), some (.ref (21 + 18))], [.int (3 : Int32), .ref (21 + 18)], 0, 0)) rfl (T_Valley_ofPart (by omega) (by decide) hc ?_)
      show sm_W sm_sh X (sm_C sm_sh X sm_P D) me_95 Q (44, [some (.ref 21), some (.ref 9), some (.int x2), some (.int x3), some (.ref (21 + 14)), some (.int a1), some (.int a4), some (.ref (21 + 18))], [.int r12, .int (3 : Int32), .ref (21 + 18)], 0, 0) (I11, J, sm_rf t d)
      refine sm_W.run (sm_C_mono D) 3 (G := True) (fr' := (47, [some (.ref 21), some (.ref 9), some (.int x2), some (.int x3), some (.ref (21 + 14)), some (.int a1), some (.int a4), some (.ref (21 + 18))], [.int (r12 &&& (I11 9 0)), .int (3 : Int32), .ref (21 + 18)], 0, 0)) (M' := (I11, J, sm_rf t d)) rfl trivial ?_
      obtain ⟨r13, hc, h⟩ := sd_q1_go h
      refine sm_W.cal (sm_C_mono D) (y := 268) (as := [.int (r12 &&& (I11 9 0))]) (fr' := (48, [some (.ref 21), some (.ref 9), some (.int x2), some (.int x3), some (.ref (21 + 14)), some (.int a1), some (.int a4), some (.ref (21 + 18))], [.int (3 : Int32), .ref (21 + 18)], 0, 0)) rfl (T_Int_bitCount (by omega) hc ?_)
      show sm_W sm_sh X (sm_C sm_sh X sm_P D) me_95 Q (48, [some (.ref 21), some (.ref 9), some (.int x2), some (.int x3), some (.ref (21 + 14)), some (.int a1), some (.int a4), some (.ref (21 + 18))], [.int r13, .int (3 : Int32), .ref (21 + 18)], 0, 0) (I11, J, sm_rf t d)
      obtain ⟨g14, h⟩ := sd_gu_go h
      refine sm_W.runL (sm_C_mono D) 1 (G := sm_in (3 : Int32) 6 = true ∧ True) (e := (sd_up I11 (21 + 18) 3 r13)) (fr' := fun _ => (49, [some (.ref 21), some (.ref 9), some (.int x2), some (.int x3), some (.ref (21 + 14)), some (.int a1), some (.int a4), some (.ref (21 + 18))], [], 0, 0)) (M' := fun I15 => (I15, J, sm_rf t d)) rfl h ⟨g14, trivial⟩ (fun I15 h => ?_)
      refine sm_W.run (sm_C_mono D) 2 (G := True) (fr' := (51, [some (.ref 21), some (.ref 9), some (.int x2), some (.int x3), some (.ref (21 + 14)), some (.int a1), some (.int a4), some (.ref (21 + 18))], [.int a1, .ref (21 + 14)], 0, 0)) (M' := (I15, J, sm_rf t d)) rfl trivial ?_
      obtain ⟨r16, I17, hc, h⟩ := sd_q2_go h
      refine sm_W.cal (sm_C_mono D) (y := 54) (as := [.ref (21 + 14), .int a1]) (fr' := (52, [some (.ref 21), some (.ref 9), some (.int x2), some (.int x3), some (.ref (21 + 14)), some (.int a1), some (.int a4), some (.ref (21 + 18))], [], 0, 0)) rfl (T_Rules_result (by omega) (by decide) hc ?_)
      show sm_W sm_sh X (sm_C sm_sh X sm_P D) me_95 Q (52, [some (.ref 21), some (.ref 9), some (.int x2), some (.int x3), some (.ref (21 + 14)), some (.int a1), some (.int a4), some (.ref (21 + 18))], [.int r16], 0, 0) (I17, J, sm_rf t d)
      cases h
      exact sm_W.ret (sm_C_mono D) rfl hQ
    · obtain ⟨g18, h⟩ := sd_gu_go h
      refine sm_W.run (sm_C_mono D) 4 (G := sm_in x3 14 = true ∧ True) (fr' := (15, [some (.ref 21), some (.ref 9), some (.int x2), some (.int x3), some (.ref (21 + 14)), some (.int a1), none, none], [.int (I (21 + 5) (Int32.toNatClampNeg x3))], 0, 0)) (M' := (I, J, sm_rf t d)) rfl ⟨g18, trivial⟩ ?_
      cases h
      exact sm_W.ret (sm_C_mono D) rfl hQ
  · skip
    refine sm_W.runL (sm_C_mono D) 7 (G := True) (e := ((2 : Int32) + x2)) (fr' := fun a1 => (7, [some (.ref 21), some (.ref 20), some (.int x2), some (.int x3), some (.ref (21 + 14)), some (.int a1), none, none], [], 0, 0)) (M' := fun _ => (I, J, sm_rf t d)) rfl h trivial (fun a1 h => ?_)
    refine sm_W.run (sm_C_mono D) 2 (G := True) (fr' := (9, [some (.ref 21), some (.ref 20), some (.int x2), some (.int x3), some (.ref (21 + 14)), some (.int a1), none, none], [.int a1, .ref (21 + 14)], 0, 0)) (M' := (I, J, sm_rf t d)) rfl trivial ?_
    obtain ⟨r2, hc, h⟩ := sd_q1_go h
    refine sm_W.cal (sm_C_mono D) (y := 53) (as := [.ref (21 + 14), .int a1]) (fr' := (10, [some (.ref 21), some (.ref 20), some (.int x2), some (.int x3), some (.ref (21 + 14)), some (.int a1), none, none], [], 0, 0)) rfl (T_Rules_has (by omega) (by decide) hc ?_)
    show sm_W sm_sh X (sm_C sm_sh X sm_P D) me_95 Q (10, [some (.ref 21), some (.ref 20), some (.int x2), some (.int x3), some (.ref (21 + 14)), some (.int a1), none, none], [.int r2], 0, 0) (I, J, sm_rf t d)
    refine sm_W.run (sm_C_mono D) 1 (G := True) (fr' := (if decide (¬ r2 = 0) = true then 16 else 11, [some (.ref 21), some (.ref 20), some (.int x2), some (.int x3), some (.ref (21 + 14)), some (.int a1), none, none], [], 0, 0)) (M' := (I, J, sm_rf t d)) rfl trivial (sm_W.iteD h (fun hc h => ?_) (fun hc h => ?_))
    · obtain ⟨g3, h⟩ := sd_gu_go h
      refine sm_W.runL (sm_C_mono D) 5 (G := sm_in x3 14 = true ∧ True) (e := (I (21 + 2) (Int32.toNatClampNeg x3))) (fr' := fun a4 => (21, [some (.ref 21), some (.ref 20), some (.int x2), some (.int x3), some (.ref (21 + 14)), some (.int a1), some (.int a4), none], [], 0, 0)) (M' := fun _ => (I, J, sm_rf t d)) rfl h ⟨g3, trivial⟩ (fun a4 h => ?_)
      obtain ⟨g5, h⟩ := sd_gu_go h
      obtain ⟨g6, h⟩ := sd_gu_go h
      refine sm_W.runL (sm_C_mono D) 10 (G := sm_in x3 14 = true ∧ sm_in (0 : Int32) 6 = true ∧ True) (e := (sd_up I (21 + 18) 0 (I (21 + 5) (Int32.toNatClampNeg x3)))) (fr' := fun _ => (31, [some (.ref 21), some (.ref 20), some (.int x2), some (.int x3), some (.ref (21 + 14)), some (.int a1), some (.int a4), some (.ref (21 + 18))], [], 0, 0)) (M' := fun I7 => (I7, J, sm_rf t d)) rfl h ⟨g5, g6, trivial⟩ (fun I7 h => ?_)
      obtain ⟨g8, h⟩ := sd_gu_go h
      refine sm_W.runL (sm_C_mono D) 4 (G := sm_in (1 : Int32) 6 = true ∧ True) (e := (sd_up I7 (21 + 18) 1 a4)) (fr' := fun _ => (35, [some (.ref 21), some (.ref 20), some (.int x2), some (.int x3), some (.ref (21 + 14)), some (.int a1), some (.int a4), some (.ref (21 + 18))], [], 0, 0)) (M' := fun I9 => (I9, J, sm_rf t d)) rfl h ⟨g8, trivial⟩ (fun I9 h => ?_)
      obtain ⟨g10, h⟩ := sd_gu_go h
      refine sm_W.runL (sm_C_mono D) 4 (G := sm_in (2 : Int32) 6 = true ∧ True) (e := (sd_up I9 (21 + 18) 2 x3)) (fr' := fun _ => (39, [some (.ref 21), some (.ref 20), some (.int x2), some (.int x3), some (.ref (21 + 14)), some (.int a1), some (.int a4), some (.ref (21 + 18))], [], 0, 0)) (M' := fun I11 => (I11, J, sm_rf t d)) rfl h ⟨g10, trivial⟩ (fun I11 h => ?_)
      refine sm_W.run (sm_C_mono D) 4 (G := True) (fr' := (43, [some (.ref 21), some (.ref 20), some (.int x2), some (.int x3), some (.ref (21 + 14)), some (.int a1), some (.int a4), some (.ref (21 + 18))], [.int a4, .ref 21, .int (3 : Int32), .ref (21 + 18)], 0, 0)) (M' := (I11, J, sm_rf t d)) rfl trivial ?_
      obtain ⟨r12, hc, h⟩ := sd_q1_go h
      refine sm_W.cal (sm_C_mono D) (y := 84) (as := [.ref 21, .int a4]) (fr' := (44, [some (.ref 21), some (.ref 20), some (.int x2), some (.int x3), some (.ref (21 + 14)), some (.int a1), some (.int a4), some (.ref (21 + 18))], [.int (3 : Int32), .ref (21 + 18)], 0, 0)) rfl (T_Valley_ofPart (by omega) (by decide) hc ?_)
      show sm_W sm_sh X (sm_C sm_sh X sm_P D) me_95 Q (44, [some (.ref 21), some (.ref 20), some (.int x2), some (.int x3), some (.ref (21 + 14)), some (.int a1), some (.int a4), some (.ref (21 + 18))], [.int r12, .int (3 : Int32), .ref (21 + 18)], 0, 0) (I11, J, sm_rf t d)
      refine sm_W.run (sm_C_mono D) 3 (G := True) (fr' := (47, [some (.ref 21), some (.ref 20), some (.int x2), some (.int x3), some (.ref (21 + 14)), some (.int a1), some (.int a4), some (.ref (21 + 18))], [.int (r12 &&& (I11 20 0)), .int (3 : Int32), .ref (21 + 18)], 0, 0)) (M' := (I11, J, sm_rf t d)) rfl trivial ?_
      obtain ⟨r13, hc, h⟩ := sd_q1_go h
      refine sm_W.cal (sm_C_mono D) (y := 268) (as := [.int (r12 &&& (I11 20 0))]) (fr' := (48, [some (.ref 21), some (.ref 20), some (.int x2), some (.int x3), some (.ref (21 + 14)), some (.int a1), some (.int a4), some (.ref (21 + 18))], [.int (3 : Int32), .ref (21 + 18)], 0, 0)) rfl (T_Int_bitCount (by omega) hc ?_)
      show sm_W sm_sh X (sm_C sm_sh X sm_P D) me_95 Q (48, [some (.ref 21), some (.ref 20), some (.int x2), some (.int x3), some (.ref (21 + 14)), some (.int a1), some (.int a4), some (.ref (21 + 18))], [.int r13, .int (3 : Int32), .ref (21 + 18)], 0, 0) (I11, J, sm_rf t d)
      obtain ⟨g14, h⟩ := sd_gu_go h
      refine sm_W.runL (sm_C_mono D) 1 (G := sm_in (3 : Int32) 6 = true ∧ True) (e := (sd_up I11 (21 + 18) 3 r13)) (fr' := fun _ => (49, [some (.ref 21), some (.ref 20), some (.int x2), some (.int x3), some (.ref (21 + 14)), some (.int a1), some (.int a4), some (.ref (21 + 18))], [], 0, 0)) (M' := fun I15 => (I15, J, sm_rf t d)) rfl h ⟨g14, trivial⟩ (fun I15 h => ?_)
      refine sm_W.run (sm_C_mono D) 2 (G := True) (fr' := (51, [some (.ref 21), some (.ref 20), some (.int x2), some (.int x3), some (.ref (21 + 14)), some (.int a1), some (.int a4), some (.ref (21 + 18))], [.int a1, .ref (21 + 14)], 0, 0)) (M' := (I15, J, sm_rf t d)) rfl trivial ?_
      obtain ⟨r16, I17, hc, h⟩ := sd_q2_go h
      refine sm_W.cal (sm_C_mono D) (y := 54) (as := [.ref (21 + 14), .int a1]) (fr' := (52, [some (.ref 21), some (.ref 20), some (.int x2), some (.int x3), some (.ref (21 + 14)), some (.int a1), some (.int a4), some (.ref (21 + 18))], [], 0, 0)) rfl (T_Rules_result (by omega) (by decide) hc ?_)
      show sm_W sm_sh X (sm_C sm_sh X sm_P D) me_95 Q (52, [some (.ref 21), some (.ref 20), some (.int x2), some (.int x3), some (.ref (21 + 14)), some (.int a1), some (.int a4), some (.ref (21 + 18))], [.int r16], 0, 0) (I17, J, sm_rf t d)
      cases h
      exact sm_W.ret (sm_C_mono D) rfl hQ
    · obtain ⟨g18, h⟩ := sd_gu_go h
      refine sm_W.run (sm_C_mono D) 4 (G := sm_in x3 14 = true ∧ True) (fr' := (15, [some (.ref 21), some (.ref 20), some (.int x2), some (.int x3), some (.ref (21 + 14)), some (.int a1), none, none], [.int (I (21 + 5) (Int32.toNatClampNeg x3))], 0, 0)) (M' := (I, J, sm_rf t d)) rfl ⟨g18, trivial⟩ ?_
      cases h
      exact sm_W.ret (sm_C_mono D) rfl hQ
  · skip
    refine sm_W.runL (sm_C_mono D) 7 (G := True) (e := ((2 : Int32) + x2)) (fr' := fun a1 => (7, [some (.ref 41), some (.ref 9), some (.int x2), some (.int x3), some (.ref (41 + 14)), some (.int a1), none, none], [], 0, 0)) (M' := fun _ => (I, J, sm_rf t d)) rfl h trivial (fun a1 h => ?_)
    refine sm_W.run (sm_C_mono D) 2 (G := True) (fr' := (9, [some (.ref 41), some (.ref 9), some (.int x2), some (.int x3), some (.ref (41 + 14)), some (.int a1), none, none], [.int a1, .ref (41 + 14)], 0, 0)) (M' := (I, J, sm_rf t d)) rfl trivial ?_
    obtain ⟨r2, hc, h⟩ := sd_q1_go h
    refine sm_W.cal (sm_C_mono D) (y := 53) (as := [.ref (41 + 14), .int a1]) (fr' := (10, [some (.ref 41), some (.ref 9), some (.int x2), some (.int x3), some (.ref (41 + 14)), some (.int a1), none, none], [], 0, 0)) rfl (T_Rules_has (by omega) (by decide) hc ?_)
    show sm_W sm_sh X (sm_C sm_sh X sm_P D) me_95 Q (10, [some (.ref 41), some (.ref 9), some (.int x2), some (.int x3), some (.ref (41 + 14)), some (.int a1), none, none], [.int r2], 0, 0) (I, J, sm_rf t d)
    refine sm_W.run (sm_C_mono D) 1 (G := True) (fr' := (if decide (¬ r2 = 0) = true then 16 else 11, [some (.ref 41), some (.ref 9), some (.int x2), some (.int x3), some (.ref (41 + 14)), some (.int a1), none, none], [], 0, 0)) (M' := (I, J, sm_rf t d)) rfl trivial (sm_W.iteD h (fun hc h => ?_) (fun hc h => ?_))
    · obtain ⟨g3, h⟩ := sd_gu_go h
      refine sm_W.runL (sm_C_mono D) 5 (G := sm_in x3 14 = true ∧ True) (e := (I (41 + 2) (Int32.toNatClampNeg x3))) (fr' := fun a4 => (21, [some (.ref 41), some (.ref 9), some (.int x2), some (.int x3), some (.ref (41 + 14)), some (.int a1), some (.int a4), none], [], 0, 0)) (M' := fun _ => (I, J, sm_rf t d)) rfl h ⟨g3, trivial⟩ (fun a4 h => ?_)
      obtain ⟨g5, h⟩ := sd_gu_go h
      obtain ⟨g6, h⟩ := sd_gu_go h
      refine sm_W.runL (sm_C_mono D) 10 (G := sm_in x3 14 = true ∧ sm_in (0 : Int32) 6 = true ∧ True) (e := (sd_up I (41 + 18) 0 (I (41 + 5) (Int32.toNatClampNeg x3)))) (fr' := fun _ => (31, [some (.ref 41), some (.ref 9), some (.int x2), some (.int x3), some (.ref (41 + 14)), some (.int a1), some (.int a4), some (.ref (41 + 18))], [], 0, 0)) (M' := fun I7 => (I7, J, sm_rf t d)) rfl h ⟨g5, g6, trivial⟩ (fun I7 h => ?_)
      obtain ⟨g8, h⟩ := sd_gu_go h
      refine sm_W.runL (sm_C_mono D) 4 (G := sm_in (1 : Int32) 6 = true ∧ True) (e := (sd_up I7 (41 + 18) 1 a4)) (fr' := fun _ => (35, [some (.ref 41), some (.ref 9), some (.int x2), some (.int x3), some (.ref (41 + 14)), some (.int a1), some (.int a4), some (.ref (41 + 18))], [], 0, 0)) (M' := fun I9 => (I9, J, sm_rf t d)) rfl h ⟨g8, trivial⟩ (fun I9 h => ?_)
      obtain ⟨g10, h⟩ := sd_gu_go h
      refine sm_W.runL (sm_C_mono D) 4 (G := sm_in (2 : Int32) 6 = true ∧ True) (e := (sd_up I9 (41 + 18) 2 x3)) (fr' := fun _ => (39, [some (.ref 41), some (.ref 9), some (.int x2), some (.int x3), some (.ref (41 + 14)), some (.int a1), some (.int a4), some (.ref (41 + 18))], [], 0, 0)) (M' := fun I11 => (I11, J, sm_rf t d)) rfl h ⟨g10, trivial⟩ (fun I11 h => ?_)
      refine sm_W.run (sm_C_mono D) 4 (G := True) (fr' := (43, [some (.ref 41), some (.ref 9), some (.int x2), some (.int x3), some (.ref (41 + 14)), some (.int a1), some (.int a4), some (.ref (41 + 18))], [.int a4, .ref 41, .int (3 : Int32), .ref (41 + 18)], 0, 0)) (M' := (I11, J, sm_rf t d)) rfl trivial ?_
      obtain ⟨r12, hc, h⟩ := sd_q1_go h
      refine sm_W.cal (sm_C_mono D) (y := 84) (as := [.ref 41, .int a4]) (fr' := (44, [some (.ref 41), some (.ref 9), some (.int x2), some (.int x3), some (.ref (41 + 14)), some (.int a1), some (.int a4), some (.ref (41 + 18))], [.int (3 : Int32), .ref (41 + 18)], 0, 0)) rfl (T_Valley_ofPart (by omega) (by decide) hc ?_)
      show sm_W sm_sh X (sm_C sm_sh X sm_P D) me_95 Q (44, [some (.ref 41), some (.ref 9), some (.int x2), some (.int x3), some (.ref (41 + 14)), some (.int a1), some (.int a4), some (.ref (41 + 18))], [.int r12, .int (3 : Int32), .ref (41 + 18)], 0, 0) (I11, J, sm_rf t d)
      refine sm_W.run (sm_C_mono D) 3 (G := True) (fr' := (47, [some (.ref 41), some (.ref 9), some (.int x2), some (.int x3), some (.ref (41 + 14)), some (.int a1), some (.int a4), some (.ref (41 + 18))], [.int (r12 &&& (I11 9 0)), .int (3 : Int32), .ref (41 + 18)], 0, 0)) (M' := (I11, J, sm_rf t d)) rfl trivial ?_
      obtain ⟨r13, hc, h⟩ := sd_q1_go h
      refine sm_W.cal (sm_C_mono D) (y := 268) (as := [.int (r12 &&& (I11 9 0))]) (fr' := (48, [some (.ref 41), some (.ref 9), some (.int x2), some (.int x3), some (.ref (41 + 14)), some (.int a1), some (.int a4), some (.ref (41 + 18))], [.int (3 : Int32), .ref (41 + 18)], 0, 0)) rfl (T_Int_bitCount (by omega) hc ?_)
      show sm_W sm_sh X (sm_C sm_sh X sm_P D) me_95 Q (48, [some (.ref 41), some (.ref 9), some (.int x2), some (.int x3), some (.ref (41 + 14)), some (.int a1), some (.int a4), some (.ref (41 + 18))], [.int r13, .int (3 : Int32), .ref (41 + 18)], 0, 0) (I11, J, sm_rf t d)
      obtain ⟨g14, h⟩ := sd_gu_go h
      refine sm_W.runL (sm_C_mono D) 1 (G := sm_in (3 : Int32) 6 = true ∧ True) (e := (sd_up I11 (41 + 18) 3 r13)) (fr' := fun _ => (49, [some (.ref 41), some (.ref 9), some (.int x2), some (.int x3), some (.ref (41 + 14)), some (.int a1), some (.int a4), some (.ref (41 + 18))], [], 0, 0)) (M' := fun I15 => (I15, J, sm_rf t d)) rfl h ⟨g14, trivial⟩ (fun I15 h => ?_)
      refine sm_W.run (sm_C_mono D) 2 (G := True) (fr' := (51, [some (.ref 41), some (.ref 9), some (.int x2), some (.int x3), some (.ref (41 + 14)), some (.int a1), some (.int a4), some (.ref (41 + 18))], [.int a1, .ref (41 + 14)], 0, 0)) (M' := (I15, J, sm_rf t d)) rfl trivial ?_
      obtain ⟨r16, I17, hc, h⟩ := sd_q2_go h
      refine sm_W.cal (sm_C_mono D) (y := 54) (as := [.ref (41 + 14), .int a1]) (fr' := (52, [some (.ref 41), some (.ref 9), some (.int x2), some (.int x3), some (.ref (41 + 14)), some (.int a1), some (.int a4), some (.ref (41 + 18))], [], 0, 0)) rfl (T_Rules_result (by omega) (by decide) hc ?_)
      show sm_W sm_sh X (sm_C sm_sh X sm_P D) me_95 Q (52, [some (.ref 41), some (.ref 9), some (.int x2), some (.int x3), some (.ref (41 + 14)), some (.int a1), some (.int a4), some (.ref (41 + 18))], [.int r16], 0, 0) (I17, J, sm_rf t d)
      cases h
      exact sm_W.ret (sm_C_mono D) rfl hQ
    · obtain ⟨g18, h⟩ := sd_gu_go h
      refine sm_W.run (sm_C_mono D) 4 (G := sm_in x3 14 = true ∧ True) (fr' := (15, [some (.ref 41), some (.ref 9), some (.int x2), some (.int x3), some (.ref (41 + 14)), some (.int a1), none, none], [.int (I (41 + 5) (Int32.toNatClampNeg x3))], 0, 0)) (M' := (I, J, sm_rf t d)) rfl ⟨g18, trivial⟩ ?_
      cases h
      exact sm_W.ret (sm_C_mono D) rfl hQ
  · skip
    refine sm_W.runL (sm_C_mono D) 7 (G := True) (e := ((2 : Int32) + x2)) (fr' := fun a1 => (7, [some (.ref 41), some (.ref 20), some (.int x2), some (.int x3), some (.ref (41 + 14)), some (.int a1), none, none], [], 0, 0)) (M' := fun _ => (I, J, sm_rf t d)) rfl h trivial (fun a1 h => ?_)
    refine sm_W.run (sm_C_mono D) 2 (G := True) (fr' := (9, [some (.ref 41), some (.ref 20), some (.int x2), some (.int x3), some (.ref (41 + 14)), some (.int a1), none, none], [.int a1, .ref (41 + 14)], 0, 0)) (M' := (I, J, sm_rf t d)) rfl trivial ?_
    obtain ⟨r2, hc, h⟩ := sd_q1_go h
    refine sm_W.cal (sm_C_mono D) (y := 53) (as := [.ref (41 + 14), .int a1]) (fr' := (10, [some (.ref 41), some (.ref 20), some (.int x2), some (.int x3), some (.ref (41 + 14)), some (.int a1), none, none], [], 0, 0)) rfl (T_Rules_has (by omega) (by decide) hc ?_)
    show sm_W sm_sh X (sm_C sm_sh X sm_P D) me_95 Q (10, [some (.ref 41), some (.ref 20), some (.int x2), some (.int x3), some (.ref (41 + 14)), some (.int a1), none, none], [.int r2], 0, 0) (I, J, sm_rf t d)
    refine sm_W.run (sm_C_mono D) 1 (G := True) (fr' := (if decide (¬ r2 = 0) = true then 16 else 11, [some (.ref 41), some (.ref 20), some (.int x2), some (.int x3), some (.ref (41 + 14)), some (.int a1), none, none], [], 0, 0)) (M' := (I, J, sm_rf t d)) rfl trivial (sm_W.iteD h (fun hc h => ?_) (fun hc h => ?_))
    · obtain ⟨g3, h⟩ := sd_gu_go h
      refine sm_W.runL (sm_C_mono D) 5 (G := sm_in x3 14 = true ∧ True) (e := (I (41 + 2) (Int32.toNatClampNeg x3))) (fr' := fun a4 => (21, [some (.ref 41), some (.ref 20), some (.int x2), some (.int x3), some (.ref (41 + 14)), some (.int a1), some (.int a4), none], [], 0, 0)) (M' := fun _ => (I, J, sm_rf t d)) rfl h ⟨g3, trivial⟩ (fun a4 h => ?_)
      obtain ⟨g5, h⟩ := sd_gu_go h
      obtain ⟨g6, h⟩ := sd_gu_go h
      refine sm_W.runL (sm_C_mono D) 10 (G := sm_in x3 14 = true ∧ sm_in (0 : Int32) 6 = true ∧ True) (e := (sd_up I (41 + 18) 0 (I (41 + 5) (Int32.toNatClampNeg x3)))) (fr' := fun _ => (31, [some (.ref 41), some (.ref 20), some (.int x2), some (.int x3), some (.ref (41 + 14)), some (.int a1), some (.int a4), some (.ref (41 + 18))], [], 0, 0)) (M' := fun I7 => (I7, J, sm_rf t d)) rfl h ⟨g5, g6, trivial⟩ (fun I7 h => ?_)
      obtain ⟨g8, h⟩ := sd_gu_go h
      refine sm_W.runL (sm_C_mono D) 4 (G := sm_in (1 : Int32) 6 = true ∧ True) (e := (sd_up I7 (41 + 18) 1 a4)) (fr' := fun _ => (35, [some (.ref 41), some (.ref 20), some (.int x2), some (.int x3), some (.ref (41 + 14)), some (.int a1), some (.int a4), some (.ref (41 + 18))], [], 0, 0)) (M' := fun I9 => (I9, J, sm_rf t d)) rfl h ⟨g8, trivial⟩ (fun I9 h => ?_)
      obtain ⟨g10, h⟩ := sd_gu_go h
      refine sm_W.runL (sm_C_mono D) 4 (G := sm_in (2 : Int32) 6 = true ∧ True) (e := (sd_up I9 (41 + 18) 2 x3)) (fr' := fun _ => (39, [some (.ref 41), some (.ref 20), some (.int x2), some (.int x3), some (.ref (41 + 14)), some (.int a1), some (.int a4), some (.ref (41 + 18))], [], 0, 0)) (M' := fun I11 => (I11, J, sm_rf t d)) rfl h ⟨g10, trivial⟩ (fun I11 h => ?_)
      refine sm_W.run (sm_C_mono D) 4 (G := True) (fr' := (43, [some (.ref 41), some (.ref 20), some (.int x2), some (.int x3), some (.ref (41 + 14)), some (.int a1), some (.int a4), some (.ref (41 + 18))], [.int a4, .ref 41, .int (3 : Int32), .ref (41 + 18)], 0, 0)) (M' := (I11, J, sm_rf t d)) rfl trivial ?_
      obtain ⟨r12, hc, h⟩ := sd_q1_go h
      refine sm_W.cal (sm_C_mono D) (y := 84) (as := [.ref 41, .int a4]) (fr' := (44, [some (.ref 41), some (.ref 20), some (.int x2), some (.int x3), some (.ref (41 + 14)), some (.int a1), some (.int a4), some (.ref (41 + 18))], [.int (3 : Int32), .ref (41 + 18)], 0, 0)) rfl (T_Valley_ofPart (by omega) (by decide) hc ?_)
      show sm_W sm_sh X (sm_C sm_sh X sm_P D) me_95 Q (44, [some (.ref 41), some (.ref 20), some (.int x2), some (.int x3), some (.ref (41 + 14)), some (.int a1), some (.int a4), some (.ref (41 + 18))], [.int r12, .int (3 : Int32), .ref (41 + 18)], 0, 0) (I11, J, sm_rf t d)
      refine sm_W.run (sm_C_mono D) 3 (G := True) (fr' := (47, [some (.ref 41), some (.ref 20), some (.int x2), some (.int x3), some (.ref (41 + 14)), some (.int a1), some (.int a4), some (.ref (41 + 18))], [.int (r12 &&& (I11 20 0)), .int (3 : Int32), .ref (41 + 18)], 0, 0)) (M' := (I11, J, sm_rf t d)) rfl trivial ?_
      obtain ⟨r13, hc, h⟩ := sd_q1_go h
      refine sm_W.cal (sm_C_mono D) (y := 268) (as := [.int (r12 &&& (I11 20 0))]) (fr' := (48, [some (.ref 41), some (.ref 20), some (.int x2), some (.int x3), some (.ref (41 + 14)), some (.int a1), some (.int a4), some (.ref (41 + 18))], [.int (3 : Int32), .ref (41 + 18)], 0, 0)) rfl (T_Int_bitCount (by omega) hc ?_)
      show sm_W sm_sh X (sm_C sm_sh X sm_P D) me_95 Q (48, [some (.ref 41), some (.ref 20), some (.int x2), some (.int x3), some (.ref (41 + 14)), some (.int a1), some (.int a4), some (.ref (41 + 18))], [.int r13, .int (3 : Int32), .ref (41 + 18)], 0, 0) (I11, J, sm_rf t d)
      obtain ⟨g14, h⟩ := sd_gu_go h
      refine sm_W.runL (sm_C_mono D) 1 (G := sm_in (3 : Int32) 6 = true ∧ True) (e := (sd_up I11 (41 + 18) 3 r13)) (fr' := fun _ => (49, [some (.ref 41), some (.ref 20), some (.int x2), some (.int x3), some (.ref (41 + 14)), some (.int a1), some (.int a4), some (.ref (41 + 18))], [], 0, 0)) (M' := fun I15 => (I15, J, sm_rf t d)) rfl h ⟨g14, trivial⟩ (fun I15 h => ?_)
      refine sm_W.run (sm_C_mono D) 2 (G := True) (fr' := (51, [some (.ref 41), some (.ref 20), some (.int x2), some (.int x3), some (.ref (41 + 14)), some (.int a1), some (.int a4), some (.ref (41 + 18))], [.int a1, .ref (41 + 14)], 0, 0)) (M' := (I15, J, sm_rf t d)) rfl trivial ?_
      obtain ⟨r16, I17, hc, h⟩ := sd_q2_go h
      refine sm_W.cal (sm_C_mono D) (y := 54) (as := [.ref (41 + 14), .int a1]) (fr' := (52, [some (.ref 41), some (.ref 20), some (.int x2), some (.int x3), some (.ref (41 + 14)), some (.int a1), some (.int a4), some (.ref (41 + 18))], [], 0, 0)) rfl (T_Rules_result (by omega) (by decide) hc ?_)
      show sm_W sm_sh X (sm_C sm_sh X sm_P D) me_95 Q (52, [some (.ref 41), some (.ref 20), some (.int x2), some (.int x3), some (.ref (41 + 14)), some (.int a1), some (.int a4), some (.ref (41 + 18))], [.int r16], 0, 0) (I17, J, sm_rf t d)
      cases h
      exact sm_W.ret (sm_C_mono D) rfl hQ
    · obtain ⟨g18, h⟩ := sd_gu_go h
      refine sm_W.run (sm_C_mono D) 4 (G := sm_in x3 14 = true ∧ True) (fr' := (15, [some (.ref 41), some (.ref 20), some (.int x2), some (.int x3), some (.ref (41 + 14)), some (.int a1), none, none], [.int (I (41 + 5) (Int32.toNatClampNeg x3))], 0, 0)) (M' := (I, J, sm_rf t d)) rfl ⟨g18, trivial⟩ ?_
      cases h
      exact sm_W.ret (sm_C_mono D) rfl hQ
theorem T_War_worthOf {X : Nat × (Nat → Int32)} {t d D : Nat} {Q : sm_Q} {I : sm_MI} {J : sm_MJ} {p0 : Nat} {p1 : Nat} {x2 : Int32} {x3 : Int32} {rz : Int32} {Iz : sm_MI}
    (hD : 3 ≤ D) (hp : (p0 = 21 ∧ p1 = 9) ∨ (p0 = 21 ∧ p1 = 20) ∨ (p0 = 41 ∧ p1 = 9) ∨ (p0 = 41 ∧ p1 = 20)) (h : F_War_worthOf p0 p1 x2 x3 I = some (rz, Iz)) (hQ : Q (.inl (some (.int rz))) (Iz, J, sm_rf t d)) : sm_C sm_sh X sm_P D 95 [.ref p0, .ref p1, .int x2, .int x3] (I, J, sm_rf t d) Q := by
  cases D with
  | zero => omega
  | succ D => exact sm_C.of (me := me_95) (L := [some (.ref p0), some (.ref p1), some (.int x2), some (.int x3), none, none, none, none]) rfl rfl rfl (sm_W.forget (L' := [some (.ref p0), some (.ref p1), some (.int x2), some (.int x3), none, none, none, none]) ⟨rfl, ⟨rfl, ⟨rfl, ⟨rfl, trivial⟩⟩⟩⟩ (G_War_worthOf (by omega) hp h hQ))
