/-! ===== printed by wip/gen/emit_parts.py: what the methods compute ===== -/
-- 214 Mo_aimsFor
noncomputable def F_Mo_aimsFor_17B (p1 : Nat) (k17 : Int32 → Int32 → Int32 → Int32 → sm_MI → Option (Int32 × sm_MI)) (x2 : Int32) (x3 : Int32) (x4 : Int32) (x5 : Int32) (I : sm_MI) : Option (Int32 × sm_MI) :=
  if (I 61 1) ≤ x5 then
    sd_gu (sm_in x3 14 = true) <|
    sd_gu (sm_in (6 : Int32) 10 = true) <|
    sd_lt (sd_up I 89 6 (I 66 (Int32.toNatClampNeg x3))) fun I3 =>
    sd_gu (sm_in x3 14 = true) <|
    sd_gu (sm_in (7 : Int32) 10 = true) <|
    sd_lt (sd_up I3 89 7 (I3 63 (Int32.toNatClampNeg x3))) fun I6 =>
    sd_gu (sm_in (8 : Int32) 10 = true) <|
    sd_lt (sd_up I6 89 8 x3) fun I8 =>
    sd_gu (sm_in (9 : Int32) 10 = true) <|
    sd_lt (sd_up I8 89 9 x4) fun I10 =>
    sd_gu (sm_in ((2 : Int32) + x2) 4 = true) <|
    sd_q2 (F_Mo_reckons (I10 70 (Int32.toNatClampNeg ((2 : Int32) + x2))) I10) fun r12 I13 =>
    some (r12, I13)
  else
    sd_gu (sm_in x5 16 = true) <|
    if ¬ (I p1 (Int32.toNatClampNeg x5)) = 0 then
      sd_lt (x4 + (0 : Int32)) fun a15 =>
      k17 x2 x3 a15 (x5 + (1 : Int32)) I
    else
      sd_gu (sm_in x5 14 = true) <|
      sd_gu (sm_in x3 14 = true) <|
      if ¬ (I 63 (Int32.toNatClampNeg x5)) = (I 63 (Int32.toNatClampNeg x3)) then
        sd_lt (x4 + (0 : Int32)) fun a18 =>
        k17 x2 x3 a18 (x5 + (1 : Int32)) I
      else
        sd_lt (x4 + (1 : Int32)) fun a19 =>
        k17 x2 x3 a19 (x5 + (1 : Int32)) I
noncomputable def F_Mo_aimsFor_17 (p1 : Nat) (n : Nat) : Int32 → Int32 → Int32 → Int32 → sm_MI → Option (Int32 × sm_MI) :=
  sd_fix (fun k x2 x3 x4 x5 I => F_Mo_aimsFor_17B p1 k x2 x3 x4 x5 I) (fun _ _ _ _ _ => none) n
noncomputable def F_Mo_aimsFor (p1 : Nat) (x2 : Int32) (x3 : Int32) (I : sm_MI) : Option (Int32 × sm_MI) :=
  sd_gu (sm_in ((2 : Int32) + x2) 4 = true) <|
  if ¬ (I 70 (Int32.toNatClampNeg ((2 : Int32) + x2))) = (-1 : Int32) then
    F_Mo_aimsFor_17 p1 sd_fu x2 x3 (0 : Int32) (0 : Int32) I
  else
    sd_gu (sm_in x3 14 = true) <|
    some ((I 66 (Int32.toNatClampNeg x3)), I)
theorem G_Mo_aimsFor_17B {X : Nat × (Nat → Int32)} {t d D : Nat} {Q : sm_Q} {I : sm_MI} {J : sm_MJ} {p1 : Nat} {k17 : Int32 → Int32 → Int32 → Int32 → sm_MI → Option (Int32 × sm_MI)} {x2 : Int32} {x3 : Int32} {x4 : Int32} {x5 : Int32} {rz : Int32} {Iz : sm_MI}
    (hD : 2 ≤ D) (hp : (p1 = 86) ∨ (p1 = 87)) (h : F_Mo_aimsFor_17B p1 k17 x2 x3 x4 x5 I = some (rz, Iz)) (hQ : Q (.inl (some (.int rz))) (Iz, J, sm_rf t d)) (hk17 : ∀ (x2 : Int32) (x3 : Int32) (x4 : Int32) (x5 : Int32) (I : sm_MI), k17 x2 x3 x4 x5 I = some (rz, Iz) → sm_W sm_sh X (sm_C sm_sh X sm_P D) me_214 Q (17, [some (.ref 61), some (.ref p1), some (.int x2), some (.int x3), some (.int x4), some (.int x5)], [], 0, 0) (I, J, sm_rf t d)) : sm_W sm_sh X (sm_C sm_sh X sm_P D) me_214 Q (17, [some (.ref 61), some (.ref p1), some (.int x2), some (.int x3), some (.int x4), some (.int x5)], [], 0, 0) (I, J, sm_rf t d) := by
  unfold F_Mo_aimsFor_17B at h
  rcases hp with rfl | rfl
  · skip
    refine sm_W.run (sm_C_mono D) 4 (G := True) (fr' := (if decide ((I 61 1) ≤ x5) = true then 42 else 21, [some (.ref 61), some (.ref 86), some (.int x2), some (.int x3), some (.int x4), some (.int x5)], [], 0, 0)) (M' := (I, J, sm_rf t d)) rfl trivial (sm_W.iteD h (fun hc h => ?_) (fun hc h => ?_))
    · obtain ⟨g1, h⟩ := sd_gu_go h
      obtain ⟨g2, h⟩ := sd_gu_go h
      refine sm_W.runL (sm_C_mono D) 8 (G := sm_in x3 14 = true ∧ sm_in (6 : Int32) 10 = true ∧ True) (e := (sd_up I 89 6 (I 66 (Int32.toNatClampNeg x3)))) (fr' := fun _ => (50, [some (.ref 61), some (.ref 86), some (.int x2), some (.int x3), some (.int x4), some (.int x5)], [], 0, 0)) (M' := fun I3 => (I3, J, sm_rf t d)) rfl h ⟨g1, g2, trivial⟩ (fun I3 h => ?_)
      obtain ⟨g4, h⟩ := sd_gu_go h
      obtain ⟨g5, h⟩ := sd_gu_go h
      refine sm_W.runL (sm_C_mono D) 8 (G := sm_in x3 14 = true ∧ sm_in (7 : Int32) 10 = true ∧ True) (e := (sd_up I3 89 7 (I3 63 (Int32.toNatClampNeg x3)))) (fr' := fun _ => (58, [some (.ref 61), some (.ref 86), some (.int x2), some (.int x3), some (.int x4), some (.int x5)], [], 0, 0)) (M' := fun I6 => (I6, J, sm_rf t d)) rfl h ⟨g4, g5, trivial⟩ (fun I6 h => ?_)
      obtain ⟨g7, h⟩ := sd_gu_go h
      refine sm_W.runL (sm_C_mono D) 5 (G := sm_in (8 : Int32) 10 = true ∧ True) (e := (sd_up I6 89 8 x3)) (fr' := fun _ => (63, [some (.ref 61), some (.ref 86), some (.int x2), some (.int x3), some (.int x4), some (.int x5)], [], 0, 0)) (M' := fun I8 => (I8, J, sm_rf t d)) rfl h ⟨g7, trivial⟩ (fun I8 h => ?_)
      obtain ⟨g9, h⟩ := sd_gu_go h
      refine sm_W.runL (sm_C_mono D) 5 (G := sm_in (9 : Int32) 10 = true ∧ True) (e := (sd_up I8 89 9 x4)) (fr' := fun _ => (68, [some (.ref 61), some (.ref 86), some (.int x2), some (.int x3), some (.int x4), some (.int x5)], [], 0, 0)) (M' := fun I10 => (I10, J, sm_rf t d)) rfl h ⟨g9, trivial⟩ (fun I10 h => ?_)
      obtain ⟨g11, h⟩ := sd_gu_go h
      refine sm_W.run (sm_C_mono D) 7 (G := sm_in ((2 : Int32) + x2) 4 = true ∧ True) (fr' := (75, [some (.ref 61), some (.ref 86), some (.int x2), some (.int x3), some (.int x4), some (.int x5)], [.int (I10 70 (Int32.toNatClampNeg ((2 : Int32) + x2))), .ref 61], 0, 0)) (M' := (I10, J, sm_rf t d)) rfl ⟨g11, trivial⟩ ?_
      obtain ⟨r12, I13, hc, h⟩ := sd_q2_go h
      refine sm_W.cal (sm_C_mono D) (y := 212) (as := [.ref 61, .int (I10 70 (Int32.toNatClampNeg ((2 : Int32) + x2)))]) (fr' := (76, [some (.ref 61), some (.ref 86), some (.int x2), some (.int x3), some (.int x4), some (.int x5)], [], 0, 0)) rfl (T_Mo_reckons (by omega) hc ?_)
      show sm_W sm_sh X (sm_C sm_sh X sm_P D) me_214 Q (76, [some (.ref 61), some (.ref 86), some (.int x2), some (.int x3), some (.int x4), some (.int x5)], [.int r12], 0, 0) (I13, J, sm_rf t d)
      cases h
      exact sm_W.ret (sm_C_mono D) rfl hQ
    · obtain ⟨g14, h⟩ := sd_gu_go h
      refine sm_W.run (sm_C_mono D) 5 (G := sm_in x5 16 = true ∧ True) (fr' := (if decide (¬ (I 86 (Int32.toNatClampNeg x5)) = 0) = true then 37 else 26, [some (.ref 61), some (.ref 86), some (.int x2), some (.int x3), some (.int x4), some (.int x5)], [.int x4], 0, 0)) (M' := (I, J, sm_rf t d)) rfl ⟨g14, trivial⟩ (sm_W.iteD h (fun hc h => ?_) (fun hc h => ?_))
      · refine sm_W.runL (sm_C_mono D) 3 (G := True) (e := (x4 + (0 : Int32))) (fr' := fun a15 => (40, [some (.ref 61), some (.ref 86), some (.int x2), some (.int x3), some (.int a15), some (.int x5)], [], 0, 0)) (M' := fun _ => (I, J, sm_rf t d)) rfl h trivial (fun a15 h => ?_)
        refine sm_W.run (sm_C_mono D) 2 (G := True) (fr' := (17, [some (.ref 61), some (.ref 86), some (.int x2), some (.int x3), some (.int a15), some (.int (x5 + (1 : Int32)))], [], 0, 0)) (M' := (I, J, sm_rf t d)) rfl trivial ?_
        exact (hk17 _ _ _ _ _ h)
      · obtain ⟨g16, h⟩ := sd_gu_go h
        obtain ⟨g17, h⟩ := sd_gu_go h
        refine sm_W.run (sm_C_mono D) 9 (G := sm_in x5 14 = true ∧ sm_in x3 14 = true ∧ True) (fr' := (if decide (¬ (I 63 (Int32.toNatClampNeg x5)) = (I 63 (Int32.toNatClampNeg x3))) = true then 37 else 35, [some (.ref 61), some (.ref 86), some (.int x2), some (.int x3), some (.int x4), some (.int x5)], [.int x4], 0, 0)) (M' := (I, J, sm_rf t d)) rfl ⟨g16, g17, trivial⟩ (sm_W.iteD h (fun hc h => ?_) (fun hc h => ?_))
        · refine sm_W.runL (sm_C_mono D) 3 (G := True) (e := (x4 + (0 : Int32))) (fr' := fun a18 => (40, [some (.ref 61), some (.ref 86), some (.int x2), some (.int x3), some (.int a18), some (.int x5)], [], 0, 0)) (M' := fun _ => (I, J, sm_rf t d)) rfl h trivial (fun a18 h => ?_)
          refine sm_W.run (sm_C_mono D) 2 (G := True) (fr' := (17, [some (.ref 61), some (.ref 86), some (.int x2), some (.int x3), some (.int a18), some (.int (x5 + (1 : Int32)))], [], 0, 0)) (M' := (I, J, sm_rf t d)) rfl trivial ?_
          exact (hk17 _ _ _ _ _ h)
        · refine sm_W.runL (sm_C_mono D) 4 (G := True) (e := (x4 + (1 : Int32))) (fr' := fun a19 => (40, [some (.ref 61), some (.ref 86), some (.int x2), some (.int x3), some (.int a19), some (.int x5)], [], 0, 0)) (M' := fun _ => (I, J, sm_rf t d)) rfl h trivial (fun a19 h => ?_)
          refine sm_W.run (sm_C_mono D) 2 (G := True) (fr' := (17, [some (.ref 61), some (.ref 86), some (.int x2), some (.int x3), some (.int a19), some (.int (x5 + (1 : Int32)))], [], 0, 0)) (M' := (I, J, sm_rf t d)) rfl trivial ?_
          exact (hk17 _ _ _ _ _ h)
  · skip
    refine sm_W.run (sm_C_mono D) 4 (G := True) (fr' := (if decide ((I 61 1) ≤ x5) = true then 42 else 21, [some (.ref 61), some (.ref 87), some (.int x2), some (.int x3), some (.int x4), some (.int x5)], [], 0, 0)) (M' := (I, J, sm_rf t d)) rfl trivial (sm_W.iteD h (fun hc h => ?_) (fun hc h => ?_))
    · obtain ⟨g1, h⟩ := sd_gu_go h
      obtain ⟨g2, h⟩ := sd_gu_go h
      refine sm_W.runL (sm_C_mono D) 8 (G := sm_in x3 14 = true ∧ sm_in (6 : Int32) 10 = true ∧ True) (e := (sd_up I 89 6 (I 66 (Int32.toNatClampNeg x3)))) (fr' := fun _ => (50, [some (.ref 61), some (.ref 87), some (.int x2), some (.int x3), some (.int x4), some (.int x5)], [], 0, 0)) (M' := fun I3 => (I3, J, sm_rf t d)) rfl h ⟨g1, g2, trivial⟩ (fun I3 h => ?_)
      obtain ⟨g4, h⟩ := sd_gu_go h
      obtain ⟨g5, h⟩ := sd_gu_go h
      refine sm_W.runL (sm_C_mono D) 8 (G := sm_in x3 14 = true ∧ sm_in (7 : Int32) 10 = true ∧ True) (e := (sd_up I3 89 7 (I3 63 (Int32.toNatClampNeg x3)))) (fr' := fun _ => (58, [some (.ref 61), some (.ref 87), some (.int x2), some (.int x3), some (.int x4), some (.int x5)], [], 0, 0)) (M' := fun I6 => (I6, J, sm_rf t d)) rfl h ⟨g4, g5, trivial⟩ (fun I6 h => ?_)
      obtain ⟨g7, h⟩ := sd_gu_go h
      refine sm_W.runL (sm_C_mono D) 5 (G := sm_in (8 : Int32) 10 = true ∧ True) (e := (sd_up I6 89 8 x3)) (fr' := fun _ => (63, [some (.ref 61), some (.ref 87), some (.int x2), some (.int x3), some (.int x4), some (.int x5)], [], 0, 0)) (M' := fun I8 => (I8, J, sm_rf t d)) rfl h ⟨g7, trivial⟩ (fun I8 h => ?_)
      obtain ⟨g9, h⟩ := sd_gu_go h
      refine sm_W.runL (sm_C_mono D) 5 (G := sm_in (9 : Int32) 10 = true ∧ True) (e := (sd_up I8 89 9 x4)) (fr' := fun _ => (68, [some (.ref 61), some (.ref 87), some (.int x2), some (.int x3), some (.int x4), some (.int x5)], [], 0, 0)) (M' := fun I10 => (I10, J, sm_rf t d)) rfl h ⟨g9, trivial⟩ (fun I10 h => ?_)
      obtain ⟨g11, h⟩ := sd_gu_go h
      refine sm_W.run (sm_C_mono D) 7 (G := sm_in ((2 : Int32) + x2) 4 = true ∧ True) (fr' := (75, [some (.ref 61), some (.ref 87), some (.int x2), some (.int x3), some (.int x4), some (.int x5)], [.int (I10 70 (Int32.toNatClampNeg ((2 : Int32) + x2))), .ref 61], 0, 0)) (M' := (I10, J, sm_rf t d)) rfl ⟨g11, trivial⟩ ?_
      obtain ⟨r12, I13, hc, h⟩ := sd_q2_go h
      refine sm_W.cal (sm_C_mono D) (y := 212) (as := [.ref 61, .int (I10 70 (Int32.toNatClampNeg ((2 : Int32) + x2)))]) (fr' := (76, [some (.ref 61), some (.ref 87), some (.int x2), some (.int x3), some (.int x4), some (.int x5)], [], 0, 0)) rfl (T_Mo_reckons (by omega) hc ?_)
      show sm_W sm_sh X (sm_C sm_sh X sm_P D) me_214 Q (76, [some (.ref 61), some (.ref 87), some (.int x2), some (.int x3), some (.int x4), some (.int x5)], [.int r12], 0, 0) (I13, J, sm_rf t d)
      cases h
      exact sm_W.ret (sm_C_mono D) rfl hQ
    · obtain ⟨g14, h⟩ := sd_gu_go h
      refine sm_W.run (sm_C_mono D) 5 (G := sm_in x5 16 = true ∧ True) (fr' := (if decide (¬ (I 87 (Int32.toNatClampNeg x5)) = 0) = true then 37 else 26, [some (.ref 61), some (.ref 87), some (.int x2), some (.int x3), some (.int x4), some (.int x5)], [.int x4], 0, 0)) (M' := (I, J, sm_rf t d)) rfl ⟨g14, trivial⟩ (sm_W.iteD h (fun hc h => ?_) (fun hc h => ?_))
      · refine sm_W.runL (sm_C_mono D) 3 (G := True) (e := (x4 + (0 : Int32))) (fr' := fun a15 => (40, [some (.ref 61), some (.ref 87), some (.int x2), some (.int x3), some (.int a15), some (.int x5)], [], 0, 0)) (M' := fun _ => (I, J, sm_rf t d)) rfl h trivial (fun a15 h => ?_)
        refine sm_W.run (sm_C_mono D) 2 (G := True) (fr' := (17, [some (.ref 61), some (.ref 87), some (.int x2), some (.int x3), some (.int a15), some (.int (x5 + (1 : Int32)))], [], 0, 0)) (M' := (I, J, sm_rf t d)) rfl trivial ?_
        exact (hk17 _ _ _ _ _ h)
      · obtain ⟨g16, h⟩ := sd_gu_go h
        obtain ⟨g17, h⟩ := sd_gu_go h
        refine sm_W.run (sm_C_mono D) 9 (G := sm_in x5 14 = true ∧ sm_in x3 14 = true ∧ True) (fr' := (if decide (¬ (I 63 (Int32.toNatClampNeg x5)) = (I 63 (Int32.toNatClampNeg x3))) = true then 37 else 35, [some (.ref 61), some (.ref 87), some (.int x2), some (.int x3), some (.int x4), some (.int x5)], [.int x4], 0, 0)) (M' := (I, J, sm_rf t d)) rfl ⟨g16, g17, trivial⟩ (sm_W.iteD h (fun hc h => ?_) (fun hc h => ?_))
        · refine sm_W.runL (sm_C_mono D) 3 (G := True) (e := (x4 + (0 : Int32))) (fr' := fun a18 => (40, [some (.ref 61), some (.ref 87), some (.int x2), some (.int x3), some (.int a18), some (.int x5)], [], 0, 0)) (M' := fun _ => (I, J, sm_rf t d)) rfl h trivial (fun a18 h => ?_)
          refine sm_W.run (sm_C_mono D) 2 (G := True) (fr' := (17, [some (.ref 61), some (.ref 87), some (.int x2), some (.int x3), some (.int a18), some (.int (x5 + (1 : Int32)))], [], 0, 0)) (M' := (I, J, sm_rf t d)) rfl trivial ?_
          exact (hk17 _ _ _ _ _ h)
        · refine sm_W.runL (sm_C_mono D) 4 (G := True) (e := (x4 + (1 : Int32))) (fr' := fun a19 => (40, [some (.ref 61), some (.ref 87), some (.int x2), some (.int x3), some (.int a19), some (.int x5)], [], 0, 0)) (M' := fun _ => (I, J, sm_rf t d)) rfl h trivial (fun a19 h => ?_)
          refine sm_W.run (sm_C_mono D) 2 (G := True) (fr' := (17, [some (.ref 61), some (.ref 87), some (.int x2), some (.int x3), some (.int a19), some (.int (x5 + (1 : Int32)))], [], 0, 0)) (M' := (I, J, sm_rf t d)) rfl trivial ?_
          exact (hk17 _ _ _ _ _ h)
theorem G_Mo_aimsFor_17 {X : Nat × (Nat → Int32)} {t d D : Nat} {Q : sm_Q} {J : sm_MJ} {p1 : Nat} {rz : Int32} {Iz : sm_MI}
    (hD : 2 ≤ D) (hp : (p1 = 86) ∨ (p1 = 87)) (hQ : Q (.inl (some (.int rz))) (Iz, J, sm_rf t d))  : ∀ (n : Nat) (x2 : Int32) (x3 : Int32) (x4 : Int32) (x5 : Int32) (I : sm_MI), F_Mo_aimsFor_17 p1 n x2 x3 x4 x5 I = some (rz, Iz) → sm_W sm_sh X (sm_C sm_sh X sm_P D) me_214 Q (17, [some (.ref 61), some (.ref p1), some (.int x2), some (.int x3), some (.int x4), some (.int x5)], [], 0, 0) (I, J, sm_rf t d) := by
  intro n
  induction n with
  | zero => intro x2 x3 x4 x5 I h; cases (show (none : Option (Int32 × sm_MI)) = some (rz, Iz) from h)
  | succ n ih => intro x2 x3 x4 x5 I h; exact G_Mo_aimsFor_17B hD hp (show F_Mo_aimsFor_17B p1 (F_Mo_aimsFor_17 p1 n) x2 x3 x4 x5 I = some (rz, Iz) from h) hQ  ih
theorem G_Mo_aimsFor {X : Nat × (Nat → Int32)} {t d D : Nat} {Q : sm_Q} {I : sm_MI} {J : sm_MJ} {p1 : Nat} {x2 : Int32} {x3 : Int32} {rz : Int32} {Iz : sm_MI}
    (hD : 2 ≤ D) (hp : (p1 = 86) ∨ (p1 = 87)) (h : F_Mo_aimsFor p1 x2 x3 I = some (rz, Iz)) (hQ : Q (.inl (some (.int rz))) (Iz, J, sm_rf t d))  : sm_W sm_sh X (sm_C sm_sh X sm_P D) me_214 Q (0, [some (.ref 61), some (.ref p1), some (.int x2), some (.int x3), none, none], [], 0, 0) (I, J, sm_rf t d) := by
  unfold F_Mo_aimsFor at h
  rcases hp with rfl | rfl
  · skip
    obtain ⟨g1, h⟩ := sd_gu_go h
    refine sm_W.run (sm_C_mono D) 8 (G := sm_in ((2 : Int32) + x2) 4 = true ∧ True) (fr' := (if decide (¬ (I 70 (Int32.toNatClampNeg ((2 : Int32) + x2))) = (-1 : Int32)) = true then 13 else 8, [some (.ref 61), some (.ref 86), some (.int x2), some (.int x3), none, none], [], 0, 0)) (M' := (I, J, sm_rf t d)) rfl ⟨g1, trivial⟩ (sm_W.iteD h (fun hc h => ?_) (fun hc h => ?_))
    · refine sm_W.run (sm_C_mono D) 4 (G := True) (fr' := (17, [some (.ref 61), some (.ref 86), some (.int x2), some (.int x3), some (.int (0 : Int32)), some (.int (0 : Int32))], [], 0, 0)) (M' := (I, J, sm_rf t d)) rfl trivial ?_
      exact (G_Mo_aimsFor_17 hD (by decide) hQ sd_fu _ _ _ _ _ h)
    · obtain ⟨g2, h⟩ := sd_gu_go h
      refine sm_W.run (sm_C_mono D) 4 (G := sm_in x3 14 = true ∧ True) (fr' := (12, [some (.ref 61), some (.ref 86), some (.int x2), some (.int x3), none, none], [.int (I 66 (Int32.toNatClampNeg x3))], 0, 0)) (M' := (I, J, sm_rf t d)) rfl ⟨g2, trivial⟩ ?_
      cases h
      exact sm_W.ret (sm_C_mono D) rfl hQ
  · skip
    obtain ⟨g1, h⟩ := sd_gu_go h
    refine sm_W.run (sm_C_mono D) 8 (G := sm_in ((2 : Int32) + x2) 4 = true ∧ True) (fr' := (if decide (¬ (I 70 (Int32.toNatClampNeg ((2 : Int32) + x2))) = (-1 : Int32)) = true then 13 else 8, [some (.ref 61), some (.ref 87), some (.int x2), some (.int x3), none, none], [], 0, 0)) (M' := (I, J, sm_rf t d)) rfl ⟨g1, trivial⟩ (sm_W.iteD h (fun hc h => ?_) (fun hc h => ?_))
    · refine sm_W.run (sm_C_mono D) 4 (G := True) (fr' := (17, [some (.ref 61), some (.ref 87), some (.int x2), some (.int x3), some (.int (0 : Int32)), some (.int (0 : Int32))], [], 0, 0)) (M' := (I, J, sm_rf t d)) rfl trivial ?_
      exact (G_Mo_aimsFor_17 hD (by decide) hQ sd_fu _ _ _ _ _ h)
    · obtain ⟨g2, h⟩ := sd_gu_go h
      refine sm_W.run (sm_C_mono D) 4 (G := sm_in x3 14 = true ∧ True) (fr' := (12, [some (.ref 61), some (.ref 87), some (.int x2), some (.int x3), none, none], [.int (I 66 (Int32.toNatClampNeg x3))], 0, 0)) (M' := (I, J, sm_rf t d)) rfl ⟨g2, trivial⟩ ?_
      cases h
      exact sm_W.ret (sm_C_mono D) rfl hQ
theorem T_Mo_aimsFor {X : Nat × (Nat → Int32)} {t d D : Nat} {Q : sm_Q} {I : sm_MI} {J : sm_MJ} {p1 : Nat} {x2 : Int32} {x3 : Int32} {rz : Int32} {Iz : sm_MI}
    (hD : 3 ≤ D) (hp : (p1 = 86) ∨ (p1 = 87)) (h : F_Mo_aimsFor p1 x2 x3 I = some (rz, Iz)) (hQ : Q (.inl (some (.int rz))) (Iz, J, sm_rf t d)) : sm_C sm_sh X sm_P D 214 [.ref 61, .ref p1, .int x2, .int x3] (I, J, sm_rf t d) Q := by
  cases D with
  | zero => omega
  | succ D => exact sm_C.of (me := me_214) (L := [some (.ref 61), some (.ref p1), some (.int x2), some (.int x3), none, none]) rfl rfl rfl (sm_W.forget (L' := [some (.ref 61), some (.ref p1), some (.int x2), some (.int x3), none, none]) ⟨rfl, ⟨rfl, ⟨rfl, ⟨rfl, trivial⟩⟩⟩⟩ (G_Mo_aimsFor (by omega) hp h hQ))
-- 215 Mo_aims
noncomputable def F_Mo_aims_6B (p1 : Nat) (k6 : Int32 → Int32 → Int32 → Int32 → sm_MI → Option (Int32 × sm_MI)) (x2 : Int32) (x3 : Int32) (x4 : Int32) (x5 : Int32) (I : sm_MI) : Option (Int32 × sm_MI) :=
  if (I 61 1) ≤ x5 then
    some (x3, I)
  else
    sd_gu (sm_in x5 16 = true) <|
    if ¬ (I p1 (Int32.toNatClampNeg x5)) = 0 then
      k6 x2 x3 x4 (x5 + (1 : Int32)) I
    else
      sd_gu (sm_in x5 14 = true) <|
      if (I 62 (Int32.toNatClampNeg x5)) = ((1 : Int32) - x2) then
        sd_q2 (F_Mo_aimsFor p1 x2 x5 I) fun r3 I4 =>
        if x3 = (-1 : Int32) then
          k6 x2 x5 r3 (x5 + (1 : Int32)) I4
        else
          if x4 < r3 then
            k6 x2 x5 r3 (x5 + (1 : Int32)) I4
          else
            k6 x2 x3 x4 (x5 + (1 : Int32)) I4
      else
        k6 x2 x3 x4 (x5 + (1 : Int32)) I
noncomputable def F_Mo_aims_6 (p1 : Nat) (n : Nat) : Int32 → Int32 → Int32 → Int32 → sm_MI → Option (Int32 × sm_MI) :=
  sd_fix (fun k x2 x3 x4 x5 I => F_Mo_aims_6B p1 k x2 x3 x4 x5 I) (fun _ _ _ _ _ => none) n
noncomputable def F_Mo_aims (p1 : Nat) (x2 : Int32) (I : sm_MI) : Option (Int32 × sm_MI) :=
  F_Mo_aims_6 p1 sd_fu x2 (-1 : Int32) (0 : Int32) (0 : Int32) I
theorem G_Mo_aims_6B {X : Nat × (Nat → Int32)} {t d D : Nat} {Q : sm_Q} {I : sm_MI} {J : sm_MJ} {p1 : Nat} {k6 : Int32 → Int32 → Int32 → Int32 → sm_MI → Option (Int32 × sm_MI)} {x2 : Int32} {x3 : Int32} {x4 : Int32} {x5 : Int32} {rz : Int32} {Iz : sm_MI}
    (hD : 3 ≤ D) (hp : (p1 = 86) ∨ (p1 = 87)) (h : F_Mo_aims_6B p1 k6 x2 x3 x4 x5 I = some (rz, Iz)) (hQ : Q (.inl (some (.int rz))) (Iz, J, sm_rf t d)) (hk6 : ∀ (x2 : Int32) (x3 : Int32) (x4 : Int32) (x5 : Int32) (I : sm_MI), k6 x2 x3 x4 x5 I = some (rz, Iz) → sm_W sm_sh X (sm_C sm_sh X sm_P D) me_215 Q (6, [some (.ref 61), some (.ref p1), some (.int x2), some (.int x3), some (.int x4), some (.int x5), none], [], 0, 0) (I, J, sm_rf t d)) : sm_W sm_sh X (sm_C sm_sh X sm_P D) me_215 Q (6, [some (.ref 61), some (.ref p1), some (.int x2), some (.int x3), some (.int x4), some (.int x5), none], [], 0, 0) (I, J, sm_rf t d) := by
  unfold F_Mo_aims_6B at h
  rcases hp with rfl | rfl
  · skip
    refine sm_W.run (sm_C_mono D) 4 (G := True) (fr' := (if decide ((I 61 1) ≤ x5) = true then 42 else 10, [some (.ref 61), some (.ref 86), some (.int x2), some (.int x3), some (.int x4), some (.int x5), none], [], 0, 0)) (M' := (I, J, sm_rf t d)) rfl trivial (sm_W.iteD h (fun hc h => ?_) (fun hc h => ?_))
    · refine sm_W.run (sm_C_mono D) 1 (G := True) (fr' := (43, [some (.ref 61), some (.ref 86), some (.int x2), some (.int x3), some (.int x4), some (.int x5), none], [.int x3], 0, 0)) (M' := (I, J, sm_rf t d)) rfl trivial ?_
      cases h
      exact sm_W.ret (sm_C_mono D) rfl hQ
    · obtain ⟨g1, h⟩ := sd_gu_go h
      refine sm_W.run (sm_C_mono D) 4 (G := sm_in x5 16 = true ∧ True) (fr' := (if decide (¬ (I 86 (Int32.toNatClampNeg x5)) = 0) = true then 40 else 14, [some (.ref 61), some (.ref 86), some (.int x2), some (.int x3), some (.int x4), some (.int x5), none], [], 0, 0)) (M' := (I, J, sm_rf t d)) rfl ⟨g1, trivial⟩ (sm_W.iteD h (fun hc h => ?_) (fun hc h => ?_))
      · refine sm_W.run (sm_C_mono D) 2 (G := True) (fr' := (6, [some (.ref 61), some (.ref 86), some (.int x2), some (.int x3), some (.int x4), some (.int (x5 + (1 : Int32))), none], [], 0, 0)) (M' := (I, J, sm_rf t d)) rfl trivial ?_
        exact (hk6 _ _ _ _ _ h)
      · obtain ⟨g2, h⟩ := sd_gu_go h
        refine sm_W.run (sm_C_mono D) 8 (G := sm_in x5 14 = true ∧ True) (fr' := (if decide ((I 62 (Int32.toNatClampNeg x5)) = ((1 : Int32) - x2)) = true then 23 else 22, [some (.ref 61), some (.ref 86), some (.int x2), some (.int x3), some (.int x4), some (.int x5), none], [], 0, 0)) (M' := (I, J, sm_rf t d)) rfl ⟨g2, trivial⟩ (sm_W.iteD h (fun hc h => ?_) (fun hc h => ?_))
        · refine sm_W.run (sm_C_mono D) 4 (G := True) (fr' := (27, [some (.ref 61), some (.ref 86), some (.int x2), some (.int x3), some (.int x4), some (.int x5), none], [.int x5, .int x2, .ref 86, .ref 61], 0, 0)) (M' := (I, J, sm_rf t d)) rfl trivial ?_
          obtain ⟨r3, I4, hc, h⟩ := sd_q2_go h
          refine sm_W.cal (sm_C_mono D) (y := 214) (as := [.ref 61, .ref 86, .int x2, .int x5]) (fr' := (28, [some (.ref 61), some (.ref 86), some (.int x2), some (.int x3), some (.int x4), some (.int x5), none], [], 0, 0)) rfl (T_Mo_aimsFor (by omega) (by decide) hc ?_)
          show sm_W sm_sh X (sm_C sm_sh X sm_P D) me_215 Q (28, [some (.ref 61), some (.ref 86), some (.int x2), some (.int x3), some (.int x4), some (.int x5), none], [.int r3], 0, 0) (I4, J, sm_rf t d)
          refine sm_W.run (sm_C_mono D) 4 (G := True) (fr' := (if decide (x3 = (-1 : Int32)) = true then 36 else 32, [some (.ref 61), some (.ref 86), some (.int x2), some (.int x3), some (.int x4), some (.int x5), some (.int r3)], [], 0, 0)) (M' := (I4, J, sm_rf t d)) rfl trivial (sm_W.iteD h (fun hc h => ?_) (fun hc h => ?_))
          · refine sm_W.run (sm_C_mono D) 6 (G := True) (fr' := (6, [some (.ref 61), some (.ref 86), some (.int x2), some (.int x5), some (.int r3), some (.int (x5 + (1 : Int32))), some (.int r3)], [], 0, 0)) (M' := (I4, J, sm_rf t d)) rfl trivial ?_
            exact sm_W.forget (L' := [some (.ref 61), some (.ref 86), some (.int x2), some (.int x5), some (.int r3), some (.int (x5 + (1 : Int32))), none]) ⟨rfl, ⟨rfl, ⟨rfl, ⟨rfl, ⟨rfl, ⟨rfl, trivial⟩⟩⟩⟩⟩⟩ (hk6 _ _ _ _ _ h)
          · refine sm_W.run (sm_C_mono D) 3 (G := True) (fr' := (if decide (x4 < r3) = true then 36 else 35, [some (.ref 61), some (.ref 86), some (.int x2), some (.int x3), some (.int x4), some (.int x5), some (.int r3)], [], 0, 0)) (M' := (I4, J, sm_rf t d)) rfl trivial (sm_W.iteD h (fun hc h => ?_) (fun hc h => ?_))
            · refine sm_W.run (sm_C_mono D) 6 (G := True) (fr' := (6, [some (.ref 61), some (.ref 86), some (.int x2), some (.int x5), some (.int r3), some (.int (x5 + (1 : Int32))), some (.int r3)], [], 0, 0)) (M' := (I4, J, sm_rf t d)) rfl trivial ?_
              exact sm_W.forget (L' := [some (.ref 61), some (.ref 86), some (.int x2), some (.int x5), some (.int r3), some (.int (x5 + (1 : Int32))), none]) ⟨rfl, ⟨rfl, ⟨rfl, ⟨rfl, ⟨rfl, ⟨rfl, trivial⟩⟩⟩⟩⟩⟩ (hk6 _ _ _ _ _ h)
            · refine sm_W.run (sm_C_mono D) 3 (G := True) (fr' := (6, [some (.ref 61), some (.ref 86), some (.int x2), some (.int x3), some (.int x4), some (.int (x5 + (1 : Int32))), some (.int r3)], [], 0, 0)) (M' := (I4, J, sm_rf t d)) rfl trivial ?_
              exact sm_W.forget (L' := [some (.ref 61), some (.ref 86), some (.int x2), some (.int x3), some (.int x4), some (.int (x5 + (1 : Int32))), none]) ⟨rfl, ⟨rfl, ⟨rfl, ⟨rfl, ⟨rfl, ⟨rfl, trivial⟩⟩⟩⟩⟩⟩ (hk6 _ _ _ _ _ h)
        · refine sm_W.run (sm_C_mono D) 3 (G := True) (fr' := (6, [some (.ref 61), some (.ref 86), some (.int x2), some (.int x3), some (.int x4), some (.int (x5 + (1 : Int32))), none], [], 0, 0)) (M' := (I, J, sm_rf t d)) rfl trivial ?_
          exact (hk6 _ _ _ _ _ h)
  · skip
    refine sm_W.run (sm_C_mono D) 4 (G := True) (fr' := (if decide ((I 61 1) ≤ x5) = true then 42 else 10, [some (.ref 61), some (.ref 87), some (.int x2), some (.int x3), some (.int x4), some (.int x5), none], [], 0, 0)) (M' := (I, J, sm_rf t d)) rfl trivial (sm_W.iteD h (fun hc h => ?_) (fun hc h => ?_))
    · refine sm_W.run (sm_C_mono D) 1 (G := True) (fr' := (43, [some (.ref 61), some (.ref 87), some (.int x2), some (.int x3), some (.int x4), some (.int x5), none], [.int x3], 0, 0)) (M' := (I, J, sm_rf t d)) rfl trivial ?_
      cases h
      exact sm_W.ret (sm_C_mono D) rfl hQ
    · obtain ⟨g1, h⟩ := sd_gu_go h
      refine sm_W.run (sm_C_mono D) 4 (G := sm_in x5 16 = true ∧ True) (fr' := (if decide (¬ (I 87 (Int32.toNatClampNeg x5)) = 0) = true then 40 else 14, [some (.ref 61), some (.ref 87), some (.int x2), some (.int x3), some (.int x4), some (.int x5), none], [], 0, 0)) (M' := (I, J, sm_rf t d)) rfl ⟨g1, trivial⟩ (sm_W.iteD h (fun hc h => ?_) (fun hc h => ?_))
      · refine sm_W.run (sm_C_mono D) 2 (G := True) (fr' := (6, [some (.ref 61), some (.ref 87), some (.int x2), some (.int x3), some (.int x4), some (.int (x5 + (1 : Int32))), none], [], 0, 0)) (M' := (I, J, sm_rf t d)) rfl trivial ?_
        exact (hk6 _ _ _ _ _ h)
      · obtain ⟨g2, h⟩ := sd_gu_go h
        refine sm_W.run (sm_C_mono D) 8 (G := sm_in x5 14 = true ∧ True) (fr' := (if decide ((I 62 (Int32.toNatClampNeg x5)) = ((1 : Int32) - x2)) = true then 23 else 22, [some (.ref 61), some (.ref 87), some (.int x2), some (.int x3), some (.int x4), some (.int x5), none], [], 0, 0)) (M' := (I, J, sm_rf t d)) rfl ⟨g2, trivial⟩ (sm_W.iteD h (fun hc h => ?_) (fun hc h => ?_))
        · refine sm_W.run (sm_C_mono D) 4 (G := True) (fr' := (27, [some (.ref 61), some (.ref 87), some (.int x2), some (.int x3), some (.int x4), some (.int x5), none], [.int x5, .int x2, .ref 87, .ref 61], 0, 0)) (M' := (I, J, sm_rf t d)) rfl trivial ?_
          obtain ⟨r3, I4, hc, h⟩ := sd_q2_go h
          refine sm_W.cal (sm_C_mono D) (y := 214) (as := [.ref 61, .ref 87, .int x2, .int x5]) (fr' := (28, [some (.ref 61), some (.ref 87), some (.int x2), some (.int x3), some (.int x4), some (.int x5), none], [], 0, 0)) rfl (T_Mo_aimsFor (by omega) (by decide) hc ?_)
          show sm_W sm_sh X (sm_C sm_sh X sm_P D) me_215 Q (28, [some (.ref 61), some (.ref 87), some (.int x2), some (.int x3), some (.int x4), some (.int x5), none], [.int r3], 0, 0) (I4, J, sm_rf t d)
          refine sm_W.run (sm_C_mono D) 4 (G := True) (fr' := (if decide (x3 = (-1 : Int32)) = true then 36 else 32, [some (.ref 61), some (.ref 87), some (.int x2), some (.int x3), some (.int x4), some (.int x5), some (.int r3)], [], 0, 0)) (M' := (I4, J, sm_rf t d)) rfl trivial (sm_W.iteD h (fun hc h => ?_) (fun hc h => ?_))
          · refine sm_W.run (sm_C_mono D) 6 (G := True) (fr' := (6, [some (.ref 61), some (.ref 87), some (.int x2), some (.int x5), some (.int r3), some (.int (x5 + (1 : Int32))), some (.int r3)], [], 0, 0)) (M' := (I4, J, sm_rf t d)) rfl trivial ?_
            exact sm_W.forget (L' := [some (.ref 61), some (.ref 87), some (.int x2), some (.int x5), some (.int r3), some (.int (x5 + (1 : Int32))), none]) ⟨rfl, ⟨rfl, ⟨rfl, ⟨rfl, ⟨rfl, ⟨rfl, trivial⟩⟩⟩⟩⟩⟩ (hk6 _ _ _ _ _ h)
          · refine sm_W.run (sm_C_mono D) 3 (G := True) (fr' := (if decide (x4 < r3) = true then 36 else 35, [some (.ref 61), some (.ref 87), some (.int x2), some (.int x3), some (.int x4), some (.int x5), some (.int r3)], [], 0, 0)) (M' := (I4, J, sm_rf t d)) rfl trivial (sm_W.iteD h (fun hc h => ?_) (fun hc h => ?_))
            · refine sm_W.run (sm_C_mono D) 6 (G := True) (fr' := (6, [some (.ref 61), some (.ref 87), some (.int x2), some (.int x5), some (.int r3), some (.int (x5 + (1 : Int32))), some (.int r3)], [], 0, 0)) (M' := (I4, J, sm_rf t d)) rfl trivial ?_
              exact sm_W.forget (L' := [some (.ref 61), some (.ref 87), some (.int x2), some (.int x5), some (.int r3), some (.int (x5 + (1 : Int32))), none]) ⟨rfl, ⟨rfl, ⟨rfl, ⟨rfl, ⟨rfl, ⟨rfl, trivial⟩⟩⟩⟩⟩⟩ (hk6 _ _ _ _ _ h)
            · refine sm_W.run (sm_C_mono D) 3 (G := True) (fr' := (6, [some (.ref 61), some (.ref 87), some (.int x2), some (.int x3), some (.int x4), some (.int (x5 + (1 : Int32))), some (.int r3)], [], 0, 0)) (M' := (I4, J, sm_rf t d)) rfl trivial ?_
              exact sm_W.forget (L' := [some (.ref 61), some (.ref 87), some (.int x2), some (.int x3), some (.int x4), some (.int (x5 + (1 : Int32))), none]) ⟨rfl, ⟨rfl, ⟨rfl, ⟨rfl, ⟨rfl, ⟨rfl, trivial⟩⟩⟩⟩⟩⟩ (hk6 _ _ _ _ _ h)
        · refine sm_W.run (sm_C_mono D) 3 (G := True) (fr' := (6, [some (.ref 61), some (.ref 87), some (.int x2), some (.int x3), some (.int x4), some (.int (x5 + (1 : Int32))), none], [], 0, 0)) (M' := (I, J, sm_rf t d)) rfl trivial ?_
          exact (hk6 _ _ _ _ _ h)
theorem G_Mo_aims_6 {X : Nat × (Nat → Int32)} {t d D : Nat} {Q : sm_Q} {J : sm_MJ} {p1 : Nat} {rz : Int32} {Iz : sm_MI}
    (hD : 3 ≤ D) (hp : (p1 = 86) ∨ (p1 = 87)) (hQ : Q (.inl (some (.int rz))) (Iz, J, sm_rf t d))  : ∀ (n : Nat) (x2 : Int32) (x3 : Int32) (x4 : Int32) (x5 : Int32) (I : sm_MI), F_Mo_aims_6 p1 n x2 x3 x4 x5 I = some (rz, Iz) → sm_W sm_sh X (sm_C sm_sh X sm_P D) me_215 Q (6, [some (.ref 61), some (.ref p1), some (.int x2), some (.int x3), some (.int x4), some (.int x5), none], [], 0, 0) (I, J, sm_rf t d) := by
  intro n
  induction n with
  | zero => intro x2 x3 x4 x5 I h; cases (show (none : Option (Int32 × sm_MI)) = some (rz, Iz) from h)
  | succ n ih => intro x2 x3 x4 x5 I h; exact G_Mo_aims_6B hD hp (show F_Mo_aims_6B p1 (F_Mo_aims_6 p1 n) x2 x3 x4 x5 I = some (rz, Iz) from h) hQ  ih
theorem G_Mo_aims {X : Nat × (Nat → Int32)} {t d D : Nat} {Q : sm_Q} {I : sm_MI} {J : sm_MJ} {p1 : Nat} {x2 : Int32} {rz : Int32} {Iz : sm_MI}
    (hD : 3 ≤ D) (hp : (p1 = 86) ∨ (p1 = 87)) (h : F_Mo_aims p1 x2 I = some (rz, Iz)) (hQ : Q (.inl (some (.int rz))) (Iz, J, sm_rf t d))  : sm_W sm_sh X (sm_C sm_sh X sm_P D) me_215 Q (0, [some (.ref 61), some (.ref p1), some (.int x2), none, none, none, none], [], 0, 0) (I, J, sm_rf t d) := by
  unfold F_Mo_aims at h
  rcases hp with rfl | rfl
  · skip
    refine sm_W.run (sm_C_mono D) 6 (G := True) (fr' := (6, [some (.ref 61), some (.ref 86), some (.int x2), some (.int (-1 : Int32)), some (.int (0 : Int32)), some (.int (0 : Int32)), none], [], 0, 0)) (M' := (I, J, sm_rf t d)) rfl trivial ?_
    exact (G_Mo_aims_6 hD (by decide) hQ sd_fu _ _ _ _ _ h)
  · skip
    refine sm_W.run (sm_C_mono D) 6 (G := True) (fr' := (6, [some (.ref 61), some (.ref 87), some (.int x2), some (.int (-1 : Int32)), some (.int (0 : Int32)), some (.int (0 : Int32)), none], [], 0, 0)) (M' := (I, J, sm_rf t d)) rfl trivial ?_
    exact (G_Mo_aims_6 hD (by decide) hQ sd_fu _ _ _ _ _ h)
theorem T_Mo_aims {X : Nat × (Nat → Int32)} {t d D : Nat} {Q : sm_Q} {I : sm_MI} {J : sm_MJ} {p1 : Nat} {x2 : Int32} {rz : Int32} {Iz : sm_MI}
    (hD : 4 ≤ D) (hp : (p1 = 86) ∨ (p1 = 87)) (h : F_Mo_aims p1 x2 I = some (rz, Iz)) (hQ : Q (.inl (some (.int rz))) (Iz, J, sm_rf t d)) : sm_C sm_sh X sm_P D 215 [.ref 61, .ref p1, .int x2] (I, J, sm_rf t d) Q := by
  cases D with
  | zero => omega
  | succ D => exact sm_C.of (me := me_215) (L := [some (.ref 61), some (.ref p1), some (.int x2), none, none, none, none]) rfl rfl rfl (sm_W.forget (L' := [some (.ref 61), some (.ref p1), some (.int x2), none, none, none, none]) ⟨rfl, ⟨rfl, ⟨rfl, trivial⟩⟩⟩ (G_Mo_aims (by omega) hp h hQ))
-- 216 Mo_dayGoes
noncomputable def F_Mo_dayGoes_76 (p1 : Nat) (x2 : Int32) (I : sm_MI) : Option (Int32 × sm_MI) :=
  sd_gu (sm_in (14 : Int32) 16 = true) <|
  sd_gu (sm_in (14 : Int32) 16 = true) <|
  sd_lt (sd_up I p1 14 ((I p1 14) + (1 : Int32))) fun I3 =>
  some (x2, I3)
noncomputable def F_Mo_dayGoes_68 (p1 : Nat) (x4 : Int32) (s0 : Int32) (I : sm_MI) : Option (Int32 × sm_MI) :=
  if x4 = (-1 : Int32) then
    sd_lt (s0 + (0 : Int32)) fun a1 =>
    F_Mo_dayGoes_76 p1 a1 I
  else
    sd_lt (s0 + (1 : Int32)) fun a2 =>
    F_Mo_dayGoes_76 p1 a2 I
noncomputable def F_Mo_dayGoes_62 (p1 : Nat) (x3 : Int32) (x4 : Int32) (I : sm_MI) : Option (Int32 × sm_MI) :=
  if x3 = (-1 : Int32) then
    F_Mo_dayGoes_68 p1 x4 (0 : Int32) I
  else
    F_Mo_dayGoes_68 p1 x4 (1 : Int32) I
noncomputable def F_Mo_dayGoes_55 (p1 : Nat) (x3 : Int32) (x4 : Int32) (I : sm_MI) : Option (Int32 × sm_MI) :=
  if x4 = (-1 : Int32) then
    F_Mo_dayGoes_62 p1 x3 x4 I
  else
    sd_gu (sm_in x4 16 = true) <|
    sd_lt (sd_up I p1 (Int32.toNatClampNeg x4) (2 : Int32)) fun I2 =>
    F_Mo_dayGoes_62 p1 x3 x4 I2
noncomputable def F_Mo_dayGoes_47 (p1 : Nat) (x3 : Int32) (s0 : Int32) (I : sm_MI) : Option (Int32 × sm_MI) :=
  if x3 = (-1 : Int32) then
    F_Mo_dayGoes_55 p1 x3 s0 I
  else
    sd_gu (sm_in x3 16 = true) <|
    sd_lt (sd_up I p1 (Int32.toNatClampNeg x3) (2 : Int32)) fun I2 =>
    F_Mo_dayGoes_55 p1 x3 s0 I2
noncomputable def F_Mo_dayGoes_35 (p1 : Nat) (s0 : Int32) (I : sm_MI) : Option (Int32 × sm_MI) :=
  sd_q2 (F_Mo_isHolding p1 (1 : Int32) I) fun r1 I2 =>
  if r1 = 0 then
    sd_q2 (F_Mo_aims p1 (1 : Int32) I2) fun r3 I4 =>
    F_Mo_dayGoes_47 p1 s0 r3 I4
  else
    F_Mo_dayGoes_47 p1 s0 (-1 : Int32) I2
noncomputable def F_Mo_dayGoes_24 (p1 : Nat) (I : sm_MI) : Option (Int32 × sm_MI) :=
  sd_q2 (F_Mo_isHolding p1 (0 : Int32) I) fun r1 I2 =>
  if r1 = 0 then
    sd_q2 (F_Mo_aims p1 (0 : Int32) I2) fun r3 I4 =>
    F_Mo_dayGoes_35 p1 r3 I4
  else
    F_Mo_dayGoes_35 p1 (-1 : Int32) I2
noncomputable def F_Mo_dayGoes (p1 : Nat) (I : sm_MI) : Option (Int32 × sm_MI) :=
  sd_gu (sm_in (14 : Int32) 16 = true) <|
  sd_gu (¬ (I 61 3) = 0) <|
  if ¬ (sd_mod (I p1 14) (I 61 3)) = 0 then
    F_Mo_dayGoes_24 p1 I
  else
    sd_q1 (F_Mo_areSo p1 (0 : Int32) I) fun r3 =>
    sd_q1 (F_Mo_sungBy r3 I) fun r4 =>
    if r4 = 0 then
      F_Mo_dayGoes_24 p1 I
    else
      sd_gu (sm_in (15 : Int32) 16 = true) <|
      sd_gu (sm_in (15 : Int32) 16 = true) <|
      sd_lt (sd_up I p1 15 ((I p1 15) + (1 : Int32))) fun I7 =>
      F_Mo_dayGoes_76 p1 (0 : Int32) I7
theorem G_Mo_dayGoes_76 {X : Nat × (Nat → Int32)} {t d D : Nat} {Q : sm_Q} {I : sm_MI} {J : sm_MJ} {p1 : Nat} {x2 : Int32} {rz : Int32} {Iz : sm_MI}
    (hD : 6 ≤ D) (hp : (p1 = 86) ∨ (p1 = 87)) (h : F_Mo_dayGoes_76 p1 x2 I = some (rz, Iz)) (hQ : Q (.inl (some (.int rz))) (Iz, J, sm_rf t d))  : sm_W sm_sh X (sm_C sm_sh X sm_P D) me_216 Q (76, [none, some (.ref p1), some (.int x2), none, none], [], 0, 0) (I, J, sm_rf t d) := by
  unfold F_Mo_dayGoes_76 at h
  rcases hp with rfl | rfl
  · skip
    obtain ⟨g1, h⟩ := sd_gu_go h
    obtain ⟨g2, h⟩ := sd_gu_go h
    refine sm_W.runL (sm_C_mono D) 7 (G := sm_in (14 : Int32) 16 = true ∧ sm_in (14 : Int32) 16 = true ∧ True) (e := (sd_up I 86 14 ((I 86 14) + (1 : Int32)))) (fr' := fun _ => (83, [none, some (.ref 86), some (.int x2), none, none], [], 0, 0)) (M' := fun I3 => (I3, J, sm_rf t d)) rfl h ⟨g1, g2, trivial⟩ (fun I3 h => ?_)
    refine sm_W.run (sm_C_mono D) 1 (G := True) (fr' := (84, [none, some (.ref 86), some (.int x2), none, none], [.int x2], 0, 0)) (M' := (I3, J, sm_rf t d)) rfl trivial ?_
    cases h
    exact sm_W.ret (sm_C_mono D) rfl hQ
  · skip
    obtain ⟨g1, h⟩ := sd_gu_go h
    obtain ⟨g2, h⟩ := sd_gu_go h
    refine sm_W.runL (sm_C_mono D) 7 (G := sm_in (14 : Int32) 16 = true ∧ sm_in (14 : Int32) 16 = true ∧ True) (e := (sd_up I 87 14 ((I 87 14) + (1 : Int32)))) (fr' := fun _ => (83, [none, some (.ref 87), some (.int x2), none, none], [], 0, 0)) (M' := fun I3 => (I3, J, sm_rf t d)) rfl h ⟨g1, g2, trivial⟩ (fun I3 h => ?_)
    refine sm_W.run (sm_C_mono D) 1 (G := True) (fr' := (84, [none, some (.ref 87), some (.int x2), none, none], [.int x2], 0, 0)) (M' := (I3, J, sm_rf t d)) rfl trivial ?_
    cases h
    exact sm_W.ret (sm_C_mono D) rfl hQ
theorem G_Mo_dayGoes_68 {X : Nat × (Nat → Int32)} {t d D : Nat} {Q : sm_Q} {I : sm_MI} {J : sm_MJ} {p1 : Nat} {x4 : Int32} {s0 : Int32} {rz : Int32} {Iz : sm_MI}
    (hD : 6 ≤ D) (hp : (p1 = 86) ∨ (p1 = 87)) (h : F_Mo_dayGoes_68 p1 x4 s0 I = some (rz, Iz)) (hQ : Q (.inl (some (.int rz))) (Iz, J, sm_rf t d))  : sm_W sm_sh X (sm_C sm_sh X sm_P D) me_216 Q (68, [none, some (.ref p1), none, none, some (.int x4)], [.int s0], 0, 0) (I, J, sm_rf t d) := by
  unfold F_Mo_dayGoes_68 at h
  rcases hp with rfl | rfl
  · skip
    refine sm_W.run (sm_C_mono D) 3 (G := True) (fr' := (if decide (x4 = (-1 : Int32)) = true then 73 else 71, [none, some (.ref 86), none, none, some (.int x4)], [.int s0], 0, 0)) (M' := (I, J, sm_rf t d)) rfl trivial (sm_W.iteD h (fun hc h => ?_) (fun hc h => ?_))
    · refine sm_W.runL (sm_C_mono D) 3 (G := True) (e := (s0 + (0 : Int32))) (fr' := fun a1 => (76, [none, some (.ref 86), some (.int a1), none, some (.int x4)], [], 0, 0)) (M' := fun _ => (I, J, sm_rf t d)) rfl h trivial (fun a1 h => ?_)
      exact sm_W.forget (L' := [none, some (.ref 86), some (.int a1), none, none]) ⟨rfl, ⟨rfl, trivial⟩⟩ (G_Mo_dayGoes_76 hD (by decide) h hQ)
    · refine sm_W.runL (sm_C_mono D) 4 (G := True) (e := (s0 + (1 : Int32))) (fr' := fun a2 => (76, [none, some (.ref 86), some (.int a2), none, some (.int x4)], [], 0, 0)) (M' := fun _ => (I, J, sm_rf t d)) rfl h trivial (fun a2 h => ?_)
      exact sm_W.forget (L' := [none, some (.ref 86), some (.int a2), none, none]) ⟨rfl, ⟨rfl, trivial⟩⟩ (G_Mo_dayGoes_76 hD (by decide) h hQ)
  · skip
    refine sm_W.run (sm_C_mono D) 3 (G := True) (fr' := (if decide (x4 = (-1 : Int32)) = true then 73 else 71, [none, some (.ref 87), none, none, some (.int x4)], [.int s0], 0, 0)) (M' := (I, J, sm_rf t d)) rfl trivial (sm_W.iteD h (fun hc h => ?_) (fun hc h => ?_))
    · refine sm_W.runL (sm_C_mono D) 3 (G := True) (e := (s0 + (0 : Int32))) (fr' := fun a1 => (76, [none, some (.ref 87), some (.int a1), none, some (.int x4)], [], 0, 0)) (M' := fun _ => (I, J, sm_rf t d)) rfl h trivial (fun a1 h => ?_)
      exact sm_W.forget (L' := [none, some (.ref 87), some (.int a1), none, none]) ⟨rfl, ⟨rfl, trivial⟩⟩ (G_Mo_dayGoes_76 hD (by decide) h hQ)
    · refine sm_W.runL (sm_C_mono D) 4 (G := True) (e := (s0 + (1 : Int32))) (fr' := fun a2 => (76, [none, some (.ref 87), some (.int a2), none, some (.int x4)], [], 0, 0)) (M' := fun _ => (I, J, sm_rf t d)) rfl h trivial (fun a2 h => ?_)
      exact sm_W.forget (L' := [none, some (.ref 87), some (.int a2), none, none]) ⟨rfl, ⟨rfl, trivial⟩⟩ (G_Mo_dayGoes_76 hD (by decide) h hQ)
theorem G_Mo_dayGoes_62 {X : Nat × (Nat → Int32)} {t d D : Nat} {Q : sm_Q} {I : sm_MI} {J : sm_MJ} {p1 : Nat} {x3 : Int32} {x4 : Int32} {rz : Int32} {Iz : sm_MI}
    (hD : 6 ≤ D) (hp : (p1 = 86) ∨ (p1 = 87)) (h : F_Mo_dayGoes_62 p1 x3 x4 I = some (rz, Iz)) (hQ : Q (.inl (some (.int rz))) (Iz, J, sm_rf t d))  : sm_W sm_sh X (sm_C sm_sh X sm_P D) me_216 Q (62, [none, some (.ref p1), none, some (.int x3), some (.int x4)], [], 0, 0) (I, J, sm_rf t d) := by
  unfold F_Mo_dayGoes_62 at h
  rcases hp with rfl | rfl
  · skip
    refine sm_W.run (sm_C_mono D) 3 (G := True) (fr' := (if decide (x3 = (-1 : Int32)) = true then 67 else 65, [none, some (.ref 86), none, some (.int x3), some (.int x4)], [], 0, 0)) (M' := (I, J, sm_rf t d)) rfl trivial (sm_W.iteD h (fun hc h => ?_) (fun hc h => ?_))
    · refine sm_W.run (sm_C_mono D) 1 (G := True) (fr' := (68, [none, some (.ref 86), none, some (.int x3), some (.int x4)], [.int (0 : Int32)], 0, 0)) (M' := (I, J, sm_rf t d)) rfl trivial ?_
      exact sm_W.forget (L' := [none, some (.ref 86), none, none, some (.int x4)]) ⟨rfl, ⟨rfl, trivial⟩⟩ (G_Mo_dayGoes_68 hD (by decide) h hQ)
    · refine sm_W.run (sm_C_mono D) 2 (G := True) (fr' := (68, [none, some (.ref 86), none, some (.int x3), some (.int x4)], [.int (1 : Int32)], 0, 0)) (M' := (I, J, sm_rf t d)) rfl trivial ?_
      exact sm_W.forget (L' := [none, some (.ref 86), none, none, some (.int x4)]) ⟨rfl, ⟨rfl, trivial⟩⟩ (G_Mo_dayGoes_68 hD (by decide) h hQ)
  · skip
    refine sm_W.run (sm_C_mono D) 3 (G := True) (fr' := (if decide (x3 = (-1 : Int32)) = true then 67 else 65, [none, some (.ref 87), none, some (.int x3), some (.int x4)], [], 0, 0)) (M' := (I, J, sm_rf t d)) rfl trivial (sm_W.iteD h (fun hc h => ?_) (fun hc h => ?_))
    · refine sm_W.run (sm_C_mono D) 1 (G := True) (fr' := (68, [none, some (.ref 87), none, some (.int x3), some (.int x4)], [.int (0 : Int32)], 0, 0)) (M' := (I, J, sm_rf t d)) rfl trivial ?_
      exact sm_W.forget (L' := [none, some (.ref 87), none, none, some (.int x4)]) ⟨rfl, ⟨rfl, trivial⟩⟩ (G_Mo_dayGoes_68 hD (by decide) h hQ)
    · refine sm_W.run (sm_C_mono D) 2 (G := True) (fr' := (68, [none, some (.ref 87), none, some (.int x3), some (.int x4)], [.int (1 : Int32)], 0, 0)) (M' := (I, J, sm_rf t d)) rfl trivial ?_
      exact sm_W.forget (L' := [none, some (.ref 87), none, none, some (.int x4)]) ⟨rfl, ⟨rfl, trivial⟩⟩ (G_Mo_dayGoes_68 hD (by decide) h hQ)
theorem G_Mo_dayGoes_55 {X : Nat × (Nat → Int32)} {t d D : Nat} {Q : sm_Q} {I : sm_MI} {J : sm_MJ} {p1 : Nat} {x3 : Int32} {x4 : Int32} {rz : Int32} {Iz : sm_MI}
    (hD : 6 ≤ D) (hp : (p1 = 86) ∨ (p1 = 87)) (h : F_Mo_dayGoes_55 p1 x3 x4 I = some (rz, Iz)) (hQ : Q (.inl (some (.int rz))) (Iz, J, sm_rf t d))  : sm_W sm_sh X (sm_C sm_sh X sm_P D) me_216 Q (55, [none, some (.ref p1), none, some (.int x3), some (.int x4)], [], 0, 0) (I, J, sm_rf t d) := by
  unfold F_Mo_dayGoes_55 at h
  rcases hp with rfl | rfl
  · skip
    refine sm_W.run (sm_C_mono D) 3 (G := True) (fr' := (if decide (x4 = (-1 : Int32)) = true then 62 else 58, [none, some (.ref 86), none, some (.int x3), some (.int x4)], [], 0, 0)) (M' := (I, J, sm_rf t d)) rfl trivial (sm_W.iteD h (fun hc h => ?_) (fun hc h => ?_))
    · exact (G_Mo_dayGoes_62 hD (by decide) h hQ)
    · obtain ⟨g1, h⟩ := sd_gu_go h
      refine sm_W.runL (sm_C_mono D) 4 (G := sm_in x4 16 = true ∧ True) (e := (sd_up I 86 (Int32.toNatClampNeg x4) (2 : Int32))) (fr' := fun _ => (62, [none, some (.ref 86), none, some (.int x3), some (.int x4)], [], 0, 0)) (M' := fun I2 => (I2, J, sm_rf t d)) rfl h ⟨g1, trivial⟩ (fun I2 h => ?_)
      exact (G_Mo_dayGoes_62 hD (by decide) h hQ)
  · skip
    refine sm_W.run (sm_C_mono D) 3 (G := True) (fr' := (if decide (x4 = (-1 : Int32)) = true then 62 else 58, [none, some (.ref 87), none, some (.int x3), some (.int x4)], [], 0, 0)) (M' := (I, J, sm_rf t d)) rfl trivial (sm_W.iteD h (fun hc h => ?_) (fun hc h => ?_))
    · exact (G_Mo_dayGoes_62 hD (by decide) h hQ)
    · obtain ⟨g1, h⟩ := sd_gu_go h
      refine sm_W.runL (sm_C_mono D) 4 (G := sm_in x4 16 = true ∧ True) (e := (sd_up I 87 (Int32.toNatClampNeg x4) (2 : Int32))) (fr' := fun _ => (62, [none, some (.ref 87), none, some (.int x3), some (.int x4)], [], 0, 0)) (M' := fun I2 => (I2, J, sm_rf t d)) rfl h ⟨g1, trivial⟩ (fun I2 h => ?_)
      exact (G_Mo_dayGoes_62 hD (by decide) h hQ)
theorem G_Mo_dayGoes_47 {X : Nat × (Nat → Int32)} {t d D : Nat} {Q : sm_Q} {I : sm_MI} {J : sm_MJ} {p1 : Nat} {x3 : Int32} {s0 : Int32} {rz : Int32} {Iz : sm_MI}
    (hD : 6 ≤ D) (hp : (p1 = 86) ∨ (p1 = 87)) (h : F_Mo_dayGoes_47 p1 x3 s0 I = some (rz, Iz)) (hQ : Q (.inl (some (.int rz))) (Iz, J, sm_rf t d))  : sm_W sm_sh X (sm_C sm_sh X sm_P D) me_216 Q (47, [none, some (.ref p1), none, some (.int x3), none], [.int s0], 0, 0) (I, J, sm_rf t d) := by
  unfold F_Mo_dayGoes_47 at h
  rcases hp with rfl | rfl
  · skip
    refine sm_W.run (sm_C_mono D) 4 (G := True) (fr' := (if decide (x3 = (-1 : Int32)) = true then 55 else 51, [none, some (.ref 86), none, some (.int x3), some (.int s0)], [], 0, 0)) (M' := (I, J, sm_rf t d)) rfl trivial (sm_W.iteD h (fun hc h => ?_) (fun hc h => ?_))
    · exact (G_Mo_dayGoes_55 hD (by decide) h hQ)
    · obtain ⟨g1, h⟩ := sd_gu_go h
      refine sm_W.runL (sm_C_mono D) 4 (G := sm_in x3 16 = true ∧ True) (e := (sd_up I 86 (Int32.toNatClampNeg x3) (2 : Int32))) (fr' := fun _ => (55, [none, some (.ref 86), none, some (.int x3), some (.int s0)], [], 0, 0)) (M' := fun I2 => (I2, J, sm_rf t d)) rfl h ⟨g1, trivial⟩ (fun I2 h => ?_)
      exact (G_Mo_dayGoes_55 hD (by decide) h hQ)
  · skip
    refine sm_W.run (sm_C_mono D) 4 (G := True) (fr' := (if decide (x3 = (-1 : Int32)) = true then 55 else 51, [none, some (.ref 87), none, some (.int x3), some (.int s0)], [], 0, 0)) (M' := (I, J, sm_rf t d)) rfl trivial (sm_W.iteD h (fun hc h => ?_) (fun hc h => ?_))
    · exact (G_Mo_dayGoes_55 hD (by decide) h hQ)
    · obtain ⟨g1, h⟩ := sd_gu_go h
      refine sm_W.runL (sm_C_mono D) 4 (G := sm_in x3 16 = true ∧ True) (e := (sd_up I 87 (Int32.toNatClampNeg x3) (2 : Int32))) (fr' := fun _ => (55, [none, some (.ref 87), none, some (.int x3), some (.int s0)], [], 0, 0)) (M' := fun I2 => (I2, J, sm_rf t d)) rfl h ⟨g1, trivial⟩ (fun I2 h => ?_)
      exact (G_Mo_dayGoes_55 hD (by decide) h hQ)
theorem G_Mo_dayGoes_35 {X : Nat × (Nat → Int32)} {t d D : Nat} {Q : sm_Q} {I : sm_MI} {J : sm_MJ} {p1 : Nat} {s0 : Int32} {rz : Int32} {Iz : sm_MI}
    (hD : 6 ≤ D) (hp : (p1 = 86) ∨ (p1 = 87)) (h : F_Mo_dayGoes_35 p1 s0 I = some (rz, Iz)) (hQ : Q (.inl (some (.int rz))) (Iz, J, sm_rf t d))  : sm_W sm_sh X (sm_C sm_sh X sm_P D) me_216 Q (35, [some (.ref 61), some (.ref p1), none, none, none], [.int s0], 0, 0) (I, J, sm_rf t d) := by
  unfold F_Mo_dayGoes_35 at h
  rcases hp with rfl | rfl
  · skip
    refine sm_W.run (sm_C_mono D) 4 (G := True) (fr' := (39, [some (.ref 61), some (.ref 86), none, some (.int s0), none], [.int (1 : Int32), .ref 86, .ref 61], 0, 0)) (M' := (I, J, sm_rf t d)) rfl trivial ?_
    obtain ⟨r1, I2, hc, h⟩ := sd_q2_go h
    refine sm_W.cal (sm_C_mono D) (y := 213) (as := [.ref 61, .ref 86, .int (1 : Int32)]) (fr' := (40, [some (.ref 61), some (.ref 86), none, some (.int s0), none], [], 0, 0)) rfl (T_Mo_isHolding (by omega) (by decide) hc ?_)
    show sm_W sm_sh X (sm_C sm_sh X sm_P D) me_216 Q (40, [some (.ref 61), some (.ref 86), none, some (.int s0), none], [.int r1], 0, 0) (I2, J, sm_rf t d)
    refine sm_W.run (sm_C_mono D) 1 (G := True) (fr' := (if decide (r1 = 0) = true then 43 else 41, [some (.ref 61), some (.ref 86), none, some (.int s0), none], [], 0, 0)) (M' := (I2, J, sm_rf t d)) rfl trivial (sm_W.iteD h (fun hc h => ?_) (fun hc h => ?_))
    · refine sm_W.run (sm_C_mono D) 3 (G := True) (fr' := (46, [some (.ref 61), some (.ref 86), none, some (.int s0), none], [.int (1 : Int32), .ref 86, .ref 61], 0, 0)) (M' := (I2, J, sm_rf t d)) rfl trivial ?_
      obtain ⟨r3, I4, hc, h⟩ := sd_q2_go h
      refine sm_W.cal (sm_C_mono D) (y := 215) (as := [.ref 61, .ref 86, .int (1 : Int32)]) (fr' := (47, [some (.ref 61), some (.ref 86), none, some (.int s0), none], [], 0, 0)) rfl (T_Mo_aims (by omega) (by decide) hc ?_)
      show sm_W sm_sh X (sm_C sm_sh X sm_P D) me_216 Q (47, [some (.ref 61), some (.ref 86), none, some (.int s0), none], [.int r3], 0, 0) (I4, J, sm_rf t d)
      exact sm_W.forget (L' := [none, some (.ref 86), none, some (.int s0), none]) ⟨rfl, ⟨rfl, trivial⟩⟩ (G_Mo_dayGoes_47 hD (by decide) h hQ)
    · refine sm_W.run (sm_C_mono D) 2 (G := True) (fr' := (47, [some (.ref 61), some (.ref 86), none, some (.int s0), none], [.int (-1 : Int32)], 0, 0)) (M' := (I2, J, sm_rf t d)) rfl trivial ?_
      exact sm_W.forget (L' := [none, some (.ref 86), none, some (.int s0), none]) ⟨rfl, ⟨rfl, trivial⟩⟩ (G_Mo_dayGoes_47 hD (by decide) h hQ)
  · skip
    refine sm_W.run (sm_C_mono D) 4 (G := True) (fr' := (39, [some (.ref 61), some (.ref 87), none, some (.int s0), none], [.int (1 : Int32), .ref 87, .ref 61], 0, 0)) (M' := (I, J, sm_rf t d)) rfl trivial ?_
    obtain ⟨r1, I2, hc, h⟩ := sd_q2_go h
    refine sm_W.cal (sm_C_mono D) (y := 213) (as := [.ref 61, .ref 87, .int (1 : Int32)]) (fr' := (40, [some (.ref 61), some (.ref 87), none, some (.int s0), none], [], 0, 0)) rfl (T_Mo_isHolding (by omega) (by decide) hc ?_)
    show sm_W sm_sh X (sm_C sm_sh X sm_P D) me_216 Q (40, [some (.ref 61), some (.ref 87), none, some (.int s0), none], [.int r1], 0, 0) (I2, J, sm_rf t d)
    refine sm_W.run (sm_C_mono D) 1 (G := True) (fr' := (if decide (r1 = 0) = true then 43 else 41, [some (.ref 61), some (.ref 87), none, some (.int s0), none], [], 0, 0)) (M' := (I2, J, sm_rf t d)) rfl trivial (sm_W.iteD h (fun hc h => ?_) (fun hc h => ?_))
    · refine sm_W.run (sm_C_mono D) 3 (G := True) (fr' := (46, [some (.ref 61), some (.ref 87), none, some (.int s0), none], [.int (1 : Int32), .ref 87, .ref 61], 0, 0)) (M' := (I2, J, sm_rf t d)) rfl trivial ?_
      obtain ⟨r3, I4, hc, h⟩ := sd_q2_go h
      refine sm_W.cal (sm_C_mono D) (y := 215) (as := [.ref 61, .ref 87, .int (1 : Int32)]) (fr' := (47, [some (.ref 61), some (.ref 87), none, some (.int s0), none], [], 0, 0)) rfl (T_Mo_aims (by omega) (by decide) hc ?_)
      show sm_W sm_sh X (sm_C sm_sh X sm_P D) me_216 Q (47, [some (.ref 61), some (.ref 87), none, some (.int s0), none], [.int r3], 0, 0) (I4, J, sm_rf t d)
      exact sm_W.forget (L' := [none, some (.ref 87), none, some (.int s0), none]) ⟨rfl, ⟨rfl, trivial⟩⟩ (G_Mo_dayGoes_47 hD (by decide) h hQ)
    · refine sm_W.run (sm_C_mono D) 2 (G := True) (fr' := (47, [some (.ref 61), some (.ref 87), none, some (.int s0), none], [.int (-1 : Int32)], 0, 0)) (M' := (I2, J, sm_rf t d)) rfl trivial ?_
      exact sm_W.forget (L' := [none, some (.ref 87), none, some (.int s0), none]) ⟨rfl, ⟨rfl, trivial⟩⟩ (G_Mo_dayGoes_47 hD (by decide) h hQ)
theorem G_Mo_dayGoes_24 {X : Nat × (Nat → Int32)} {t d D : Nat} {Q : sm_Q} {I : sm_MI} {J : sm_MJ} {p1 : Nat} {rz : Int32} {Iz : sm_MI}
    (hD : 6 ≤ D) (hp : (p1 = 86) ∨ (p1 = 87)) (h : F_Mo_dayGoes_24 p1 I = some (rz, Iz)) (hQ : Q (.inl (some (.int rz))) (Iz, J, sm_rf t d))  : sm_W sm_sh X (sm_C sm_sh X sm_P D) me_216 Q (24, [some (.ref 61), some (.ref p1), none, none, none], [], 0, 0) (I, J, sm_rf t d) := by
  unfold F_Mo_dayGoes_24 at h
  rcases hp with rfl | rfl
  · skip
    refine sm_W.run (sm_C_mono D) 3 (G := True) (fr' := (27, [some (.ref 61), some (.ref 86), none, none, none], [.int (0 : Int32), .ref 86, .ref 61], 0, 0)) (M' := (I, J, sm_rf t d)) rfl trivial ?_
    obtain ⟨r1, I2, hc, h⟩ := sd_q2_go h
    refine sm_W.cal (sm_C_mono D) (y := 213) (as := [.ref 61, .ref 86, .int (0 : Int32)]) (fr' := (28, [some (.ref 61), some (.ref 86), none, none, none], [], 0, 0)) rfl (T_Mo_isHolding (by omega) (by decide) hc ?_)
    show sm_W sm_sh X (sm_C sm_sh X sm_P D) me_216 Q (28, [some (.ref 61), some (.ref 86), none, none, none], [.int r1], 0, 0) (I2, J, sm_rf t d)
    refine sm_W.run (sm_C_mono D) 1 (G := True) (fr' := (if decide (r1 = 0) = true then 31 else 29, [some (.ref 61), some (.ref 86), none, none, none], [], 0, 0)) (M' := (I2, J, sm_rf t d)) rfl trivial (sm_W.iteD h (fun hc h => ?_) (fun hc h => ?_))
    · refine sm_W.run (sm_C_mono D) 3 (G := True) (fr' := (34, [some (.ref 61), some (.ref 86), none, none, none], [.int (0 : Int32), .ref 86, .ref 61], 0, 0)) (M' := (I2, J, sm_rf t d)) rfl trivial ?_
      obtain ⟨r3, I4, hc, h⟩ := sd_q2_go h
      refine sm_W.cal (sm_C_mono D) (y := 215) (as := [.ref 61, .ref 86, .int (0 : Int32)]) (fr' := (35, [some (.ref 61), some (.ref 86), none, none, none], [], 0, 0)) rfl (T_Mo_aims (by omega) (by decide) hc ?_)
      show sm_W sm_sh X (sm_C sm_sh X sm_P D) me_216 Q (35, [some (.ref 61), some (.ref 86), none, none, none], [.int r3], 0, 0) (I4, J, sm_rf t d)
      exact (G_Mo_dayGoes_35 hD (by decide) h hQ)
    · refine sm_W.run (sm_C_mono D) 2 (G := True) (fr' := (35, [some (.ref 61), some (.ref 86), none, none, none], [.int (-1 : Int32)], 0, 0)) (M' := (I2, J, sm_rf t d)) rfl trivial ?_
      exact (G_Mo_dayGoes_35 hD (by decide) h hQ)
  · skip
    refine sm_W.run (sm_C_mono D) 3 (G := True) (fr' := (27, [some (.ref 61), some (.ref 87), none, none, none], [.int (0 : Int32), .ref 87, .ref 61], 0, 0)) (M' := (I, J, sm_rf t d)) rfl trivial ?_
    obtain ⟨r1, I2, hc, h⟩ := sd_q2_go h
    refine sm_W.cal (sm_C_mono D) (y := 213) (as := [.ref 61, .ref 87, .int (0 : Int32)]) (fr' := (28, [some (.ref 61), some (.ref 87), none, none, none], [], 0, 0)) rfl (T_Mo_isHolding (by omega) (by decide) hc ?_)
    show sm_W sm_sh X (sm_C sm_sh X sm_P D) me_216 Q (28, [some (.ref 61), some (.ref 87), none, none, none], [.int r1], 0, 0) (I2, J, sm_rf t d)
    refine sm_W.run (sm_C_mono D) 1 (G := True) (fr' := (if decide (r1 = 0) = true then 31 else 29, [some (.ref 61), some (.ref 87), none, none, none], [], 0, 0)) (M' := (I2, J, sm_rf t d)) rfl trivial (sm_W.iteD h (fun hc h => ?_) (fun hc h => ?_))
    · refine sm_W.run (sm_C_mono D) 3 (G := True) (fr' := (34, [some (.ref 61), some (.ref 87), none, none, none], [.int (0 : Int32), .ref 87, .ref 61], 0, 0)) (M' := (I2, J, sm_rf t d)) rfl trivial ?_
      obtain ⟨r3, I4, hc, h⟩ := sd_q2_go h
      refine sm_W.cal (sm_C_mono D) (y := 215) (as := [.ref 61, .ref 87, .int (0 : Int32)]) (fr' := (35, [some (.ref 61), some (.ref 87), none, none, none], [], 0, 0)) rfl (T_Mo_aims (by omega) (by decide) hc ?_)
      show sm_W sm_sh X (sm_C sm_sh X sm_P D) me_216 Q (35, [some (.ref 61), some (.ref 87), none, none, none], [.int r3], 0, 0) (I4, J, sm_rf t d)
      exact (G_Mo_dayGoes_35 hD (by decide) h hQ)
    · refine sm_W.run (sm_C_mono D) 2 (G := True) (fr' := (35, [some (.ref 61), some (.ref 87), none, none, none], [.int (-1 : Int32)], 0, 0)) (M' := (I2, J, sm_rf t d)) rfl trivial ?_
      exact (G_Mo_dayGoes_35 hD (by decide) h hQ)
theorem G_Mo_dayGoes {X : Nat × (Nat → Int32)} {t d D : Nat} {Q : sm_Q} {I : sm_MI} {J : sm_MJ} {p1 : Nat} {rz : Int32} {Iz : sm_MI}
    (hD : 6 ≤ D) (hp : (p1 = 86) ∨ (p1 = 87)) (h : F_Mo_dayGoes p1 I = some (rz, Iz)) (hQ : Q (.inl (some (.int rz))) (Iz, J, sm_rf t d))  : sm_W sm_sh X (sm_C sm_sh X sm_P D) me_216 Q (0, [some (.ref 61), some (.ref p1), none, none, none], [], 0, 0) (I, J, sm_rf t d) := by
  unfold F_Mo_dayGoes at h
  rcases hp with rfl | rfl
  · skip
    obtain ⟨g1, h⟩ := sd_gu_go h
    obtain ⟨g2, h⟩ := sd_gu_go h
    refine sm_W.run (sm_C_mono D) 9 (G := sm_in (14 : Int32) 16 = true ∧ ¬ (I 61 3) = 0 ∧ True) (fr' := (if decide (¬ (sd_mod (I 86 14) (I 61 3)) = 0) = true then 24 else 9, [some (.ref 61), some (.ref 86), some (.int (0 : Int32)), none, none], [], 0, 0)) (M' := (I, J, sm_rf t d)) rfl ⟨g1, g2, trivial⟩ (sm_W.iteD h (fun hc h => ?_) (fun hc h => ?_))
    · exact sm_W.forget (L' := [some (.ref 61), some (.ref 86), none, none, none]) ⟨rfl, ⟨rfl, trivial⟩⟩ (G_Mo_dayGoes_24 hD (by decide) h hQ)
    · refine sm_W.run (sm_C_mono D) 4 (G := True) (fr' := (13, [some (.ref 61), some (.ref 86), some (.int (0 : Int32)), none, none], [.int (0 : Int32), .ref 86, .ref 61, .ref 61], 0, 0)) (M' := (I, J, sm_rf t d)) rfl trivial ?_
      obtain ⟨r3, hc, h⟩ := sd_q1_go h
      refine sm_W.cal (sm_C_mono D) (y := 196) (as := [.ref 61, .ref 86, .int (0 : Int32)]) (fr' := (14, [some (.ref 61), some (.ref 86), some (.int (0 : Int32)), none, none], [.ref 61], 0, 0)) rfl (T_Mo_areSo (by omega) (by decide) hc ?_)
      show sm_W sm_sh X (sm_C sm_sh X sm_P D) me_216 Q (14, [some (.ref 61), some (.ref 86), some (.int (0 : Int32)), none, none], [.int r3, .ref 61], 0, 0) (I, J, sm_rf t d)
      obtain ⟨r4, hc, h⟩ := sd_q1_go h
      refine sm_W.cal (sm_C_mono D) (y := 202) (as := [.ref 61, .int r3]) (fr' := (15, [some (.ref 61), some (.ref 86), some (.int (0 : Int32)), none, none], [], 0, 0)) rfl (T_Mo_sungBy (by omega) hc ?_)
      show sm_W sm_sh X (sm_C sm_sh X sm_P D) me_216 Q (15, [some (.ref 61), some (.ref 86), some (.int (0 : Int32)), none, none], [.int r4], 0, 0) (I, J, sm_rf t d)
      refine sm_W.run (sm_C_mono D) 1 (G := True) (fr' := (if decide (r4 = 0) = true then 24 else 16, [some (.ref 61), some (.ref 86), some (.int (0 : Int32)), none, none], [], 0, 0)) (M' := (I, J, sm_rf t d)) rfl trivial (sm_W.iteD h (fun hc h => ?_) (fun hc h => ?_))
      · exact sm_W.forget (L' := [some (.ref 61), some (.ref 86), none, none, none]) ⟨rfl, ⟨rfl, trivial⟩⟩ (G_Mo_dayGoes_24 hD (by decide) h hQ)
      · obtain ⟨g5, h⟩ := sd_gu_go h
        obtain ⟨g6, h⟩ := sd_gu_go h
        refine sm_W.runL (sm_C_mono D) 7 (G := sm_in (15 : Int32) 16 = true ∧ sm_in (15 : Int32) 16 = true ∧ True) (e := (sd_up I 86 15 ((I 86 15) + (1 : Int32)))) (fr' := fun _ => (23, [some (.ref 61), some (.ref 86), some (.int (0 : Int32)), none, none], [], 0, 0)) (M' := fun I7 => (I7, J, sm_rf t d)) rfl h ⟨g5, g6, trivial⟩ (fun I7 h => ?_)
        refine sm_W.run (sm_C_mono D) 1 (G := True) (fr' := (76, [some (.ref 61), some (.ref 86), some (.int (0 : Int32)), none, none], [], 0, 0)) (M' := (I7, J, sm_rf t d)) rfl trivial ?_
        exact sm_W.forget (L' := [none, some (.ref 86), some (.int (0 : Int32)), none, none]) ⟨rfl, ⟨rfl, trivial⟩⟩ (G_Mo_dayGoes_76 hD (by decide) h hQ)
  · skip
    obtain ⟨g1, h⟩ := sd_gu_go h
    obtain ⟨g2, h⟩ := sd_gu_go h
    refine sm_W.run (sm_C_mono D) 9 (G := sm_in (14 : Int32) 16 = true ∧ ¬ (I 61 3) = 0 ∧ True) (fr' := (if decide (¬ (sd_mod (I 87 14) (I 61 3)) = 0) = true then 24 else 9, [some (.ref 61), some (.ref 87), some (.int (0 : Int32)), none, none], [], 0, 0)) (M' := (I, J, sm_rf t d)) rfl ⟨g1, g2, trivial⟩ (sm_W.iteD h (fun hc h => ?_) (fun hc h => ?_))
    · exact sm_W.forget (L' := [some (.ref 61), some (.ref 87), none, none, none]) ⟨rfl, ⟨rfl, trivial⟩⟩ (G_Mo_dayGoes_24 hD (by decide) h hQ)
    · refine sm_W.run (sm_C_mono D) 4 (G := True) (fr' := (13, [some (.ref 61), some (.ref 87), some (.int (0 : Int32)), none, none], [.int (0 : Int32), .ref 87, .ref 61, .ref 61], 0, 0)) (M' := (I, J, sm_rf t d)) rfl trivial ?_
      obtain ⟨r3, hc, h⟩ := sd_q1_go h
      refine sm_W.cal (sm_C_mono D) (y := 196) (as := [.ref 61, .ref 87, .int (0 : Int32)]) (fr' := (14, [some (.ref 61), some (.ref 87), some (.int (0 : Int32)), none, none], [.ref 61], 0, 0)) rfl (T_Mo_areSo (by omega) (by decide) hc ?_)
      show sm_W sm_sh X (sm_C sm_sh X sm_P D) me_216 Q (14, [some (.ref 61), some (.ref 87), some (.int (0 : Int32)), none, none], [.int r3, .ref 61], 0, 0) (I, J, sm_rf t d)
      obtain ⟨r4, hc, h⟩ := sd_q1_go h
      refine sm_W.cal (sm_C_mono D) (y := 202) (as := [.ref 61, .int r3]) (fr' := (15, [some (.ref 61), some (.ref 87), some (.int (0 : Int32)), none, none], [], 0, 0)) rfl (T_Mo_sungBy (by omega) hc ?_)
      show sm_W sm_sh X (sm_C sm_sh X sm_P D) me_216 Q (15, [some (.ref 61), some (.ref 87), some (.int (0 : Int32)), none, none], [.int r4], 0, 0) (I, J, sm_rf t d)
      refine sm_W.run (sm_C_mono D) 1 (G := True) (fr' := (if decide (r4 = 0) = true then 24 else 16, [some (.ref 61), some (.ref 87), some (.int (0 : Int32)), none, none], [], 0, 0)) (M' := (I, J, sm_rf t d)) rfl trivial (sm_W.iteD h (fun hc h => ?_) (fun hc h => ?_))
      · exact sm_W.forget (L' := [some (.ref 61), some (.ref 87), none, none, none]) ⟨rfl, ⟨rfl, trivial⟩⟩ (G_Mo_dayGoes_24 hD (by decide) h hQ)
      · obtain ⟨g5, h⟩ := sd_gu_go h
        obtain ⟨g6, h⟩ := sd_gu_go h
        refine sm_W.runL (sm_C_mono D) 7 (G := sm_in (15 : Int32) 16 = true ∧ sm_in (15 : Int32) 16 = true ∧ True) (e := (sd_up I 87 15 ((I 87 15) + (1 : Int32)))) (fr' := fun _ => (23, [some (.ref 61), some (.ref 87), some (.int (0 : Int32)), none, none], [], 0, 0)) (M' := fun I7 => (I7, J, sm_rf t d)) rfl h ⟨g5, g6, trivial⟩ (fun I7 h => ?_)
        refine sm_W.run (sm_C_mono D) 1 (G := True) (fr' := (76, [some (.ref 61), some (.ref 87), some (.int (0 : Int32)), none, none], [], 0, 0)) (M' := (I7, J, sm_rf t d)) rfl trivial ?_
        exact sm_W.forget (L' := [none, some (.ref 87), some (.int (0 : Int32)), none, none]) ⟨rfl, ⟨rfl, trivial⟩⟩ (G_Mo_dayGoes_76 hD (by decide) h hQ)
theorem T_Mo_dayGoes {X : Nat × (Nat → Int32)} {t d D : Nat} {Q : sm_Q} {I : sm_MI} {J : sm_MJ} {p1 : Nat} {rz : Int32} {Iz : sm_MI}
    (hD : 7 ≤ D) (hp : (p1 = 86) ∨ (p1 = 87)) (h : F_Mo_dayGoes p1 I = some (rz, Iz)) (hQ : Q (.inl (some (.int rz))) (Iz, J, sm_rf t d)) : sm_C sm_sh X sm_P D 216 [.ref 61, .ref p1] (I, J, sm_rf t d) Q := by
  cases D with
  | zero => omega
  | succ D => exact sm_C.of (me := me_216) (L := [some (.ref 61), some (.ref p1), none, none, none]) rfl rfl rfl (sm_W.forget (L' := [some (.ref 61), some (.ref p1), none, none, none]) ⟨rfl, ⟨rfl, trivial⟩⟩ (G_Mo_dayGoes (by omega) hp h hQ))
-- 217 Mo_days
noncomputable def F_Mo_days_16 (I : sm_MI) : Option (Int32 × sm_MI) :=
  sd_q2 (F_Mo_refuses (1 : Int32) I) fun r1 I2 =>
  some (r1, I2)
noncomputable def F_Mo_days_24B (k24 : Int32 → Int32 → sm_MI → Option (Int32 × sm_MI)) (x1 : Int32) (x2 : Int32) (I : sm_MI) : Option (Int32 × sm_MI) :=
  if x1 ≤ x2 then
    sd_gu (sm_in (14 : Int32) 16 = true) <|
    some ((I 86 14), I)
  else
    sd_q2 (F_Mo_dayGoes 86 I) fun r2 I3 =>
    k24 x1 (x2 + (1 : Int32)) I3
noncomputable def F_Mo_days_24  (n : Nat) : Int32 → Int32 → sm_MI → Option (Int32 × sm_MI) :=
  sd_fix (fun k x1 x2 I => F_Mo_days_24B k x1 x2 I) (fun _ _ _ => none) n
noncomputable def F_Mo_days (x1 : Int32) (I : sm_MI) : Option (Int32 × sm_MI) :=
  sd_lt (sd_up I 61 0 (0 : Int32)) fun I1 =>
  sd_q1 (F_Mo_within x1 (1 : Int32) (30 : Int32)) fun r2 =>
  if r2 = 0 then
    F_Mo_days_16 I1
  else
    sd_gu (sm_in (14 : Int32) 16 = true) <|
    if ((I1 86 14) + x1) ≤ (999 : Int32) then
      sd_q1 (F_Mo_keeps I1) fun I4 =>
      F_Mo_days_24 sd_fu x1 (0 : Int32) I4
    else
      F_Mo_days_16 I1
theorem G_Mo_days_16 {X : Nat × (Nat → Int32)} {t d D : Nat} {Q : sm_Q} {I : sm_MI} {J : sm_MJ} {rz : Int32} {Iz : sm_MI}
    (hD : 7 ≤ D) (h : F_Mo_days_16 I = some (rz, Iz)) (hQ : Q (.inl (some (.int rz))) (Iz, J, sm_rf t d))  : sm_W sm_sh X (sm_C sm_sh X sm_P D) me_217 Q (16, [some (.ref 61), none, none], [], 0, 0) (I, J, sm_rf t d) := by
  unfold F_Mo_days_16 at h
  refine sm_W.run (sm_C_mono D) 2 (G := True) (fr' := (18, [some (.ref 61), none, none], [.int (1 : Int32), .ref 61], 0, 0)) (M' := (I, J, sm_rf t d)) rfl trivial ?_
  obtain ⟨r1, I2, hc, h⟩ := sd_q2_go h
  refine sm_W.cal (sm_C_mono D) (y := 194) (as := [.ref 61, .int (1 : Int32)]) (fr' := (19, [some (.ref 61), none, none], [], 0, 0)) rfl (T_Mo_refuses (by omega) hc ?_)
  show sm_W sm_sh X (sm_C sm_sh X sm_P D) me_217 Q (19, [some (.ref 61), none, none], [.int r1], 0, 0) (I2, J, sm_rf t d)
  cases h
  exact sm_W.ret (sm_C_mono D) rfl hQ
theorem G_Mo_days_24B {X : Nat × (Nat → Int32)} {t d D : Nat} {Q : sm_Q} {I : sm_MI} {J : sm_MJ} {k24 : Int32 → Int32 → sm_MI → Option (Int32 × sm_MI)} {x1 : Int32} {x2 : Int32} {rz : Int32} {Iz : sm_MI}
    (hD : 7 ≤ D) (h : F_Mo_days_24B k24 x1 x2 I = some (rz, Iz)) (hQ : Q (.inl (some (.int rz))) (Iz, J, sm_rf t d)) (hk24 : ∀ (x1 : Int32) (x2 : Int32) (I : sm_MI), k24 x1 x2 I = some (rz, Iz) → sm_W sm_sh X (sm_C sm_sh X sm_P D) me_217 Q (24, [some (.ref 61), some (.int x1), some (.int x2)], [], 0, 0) (I, J, sm_rf t d)) : sm_W sm_sh X (sm_C sm_sh X sm_P D) me_217 Q (24, [some (.ref 61), some (.int x1), some (.int x2)], [], 0, 0) (I, J, sm_rf t d) := by
  unfold F_Mo_days_24B at h
  refine sm_W.run (sm_C_mono D) 3 (G := True) (fr' := (if decide (x1 ≤ x2) = true then 34 else 27, [some (.ref 61), some (.int x1), some (.int x2)], [], 0, 0)) (M' := (I, J, sm_rf t d)) rfl trivial (sm_W.iteD h (fun hc h => ?_) (fun hc h => ?_))
  · obtain ⟨g1, h⟩ := sd_gu_go h
    refine sm_W.run (sm_C_mono D) 4 (G := sm_in (14 : Int32) 16 = true ∧ True) (fr' := (38, [some (.ref 61), some (.int x1), some (.int x2)], [.int (I 86 14)], 0, 0)) (M' := (I, J, sm_rf t d)) rfl ⟨g1, trivial⟩ ?_
    cases h
    exact sm_W.ret (sm_C_mono D) rfl hQ
  · refine sm_W.run (sm_C_mono D) 3 (G := True) (fr' := (30, [some (.ref 61), some (.int x1), some (.int x2)], [.ref 86, .ref 61], 0, 0)) (M' := (I, J, sm_rf t d)) rfl trivial ?_
    obtain ⟨r2, I3, hc, h⟩ := sd_q2_go h
    refine sm_W.cal (sm_C_mono D) (y := 216) (as := [.ref 61, .ref 86]) (fr' := (31, [some (.ref 61), some (.int x1), some (.int x2)], [], 0, 0)) rfl (T_Mo_dayGoes (by omega) (by decide) hc ?_)
    show sm_W sm_sh X (sm_C sm_sh X sm_P D) me_217 Q (31, [some (.ref 61), some (.int x1), some (.int x2)], [.int r2], 0, 0) (I3, J, sm_rf t d)
    refine sm_W.run (sm_C_mono D) 3 (G := True) (fr' := (24, [some (.ref 61), some (.int x1), some (.int (x2 + (1 : Int32)))], [], 0, 0)) (M' := (I3, J, sm_rf t d)) rfl trivial ?_
    exact (hk24 _ _ _ h)
theorem G_Mo_days_24 {X : Nat × (Nat → Int32)} {t d D : Nat} {Q : sm_Q} {J : sm_MJ} {rz : Int32} {Iz : sm_MI}
    (hD : 7 ≤ D) (hQ : Q (.inl (some (.int rz))) (Iz, J, sm_rf t d))  : ∀ (n : Nat) (x1 : Int32) (x2 : Int32) (I : sm_MI), F_Mo_days_24 n x1 x2 I = some (rz, Iz) → sm_W sm_sh X (sm_C sm_sh X sm_P D) me_217 Q (24, [some (.ref 61), some (.int x1), some (.int x2)], [], 0, 0) (I, J, sm_rf t d) := by
  intro n
  induction n with
  | zero => intro x1 x2 I h; cases (show (none : Option (Int32 × sm_MI)) = some (rz, Iz) from h)
  | succ n ih => intro x1 x2 I h; exact G_Mo_days_24B hD (show F_Mo_days_24B (F_Mo_days_24 n) x1 x2 I = some (rz, Iz) from h) hQ  ih
theorem G_Mo_days {X : Nat × (Nat → Int32)} {t d D : Nat} {Q : sm_Q} {I : sm_MI} {J : sm_MJ} {x1 : Int32} {rz : Int32} {Iz : sm_MI}
    (hD : 7 ≤ D) (h : F_Mo_days x1 I = some (rz, Iz)) (hQ : Q (.inl (some (.int rz))) (Iz, J, sm_rf t d))  : sm_W sm_sh X (sm_C sm_sh X sm_P D) me_217 Q (0, [some (.ref 61), some (.int x1), none], [], 0, 0) (I, J, sm_rf t d) := by
  unfold F_Mo_days at h
  refine sm_W.runL (sm_C_mono D) 3 (G := True) (e := (sd_up I 61 0 (0 : Int32))) (fr' := fun _ => (3, [some (.ref 61), some (.int x1), none], [], 0, 0)) (M' := fun I1 => (I1, J, sm_rf t d)) rfl h trivial (fun I1 h => ?_)
  refine sm_W.run (sm_C_mono D) 3 (G := True) (fr' := (6, [some (.ref 61), some (.int x1), none], [.int (30 : Int32), .int (1 : Int32), .int x1], 0, 0)) (M' := (I1, J, sm_rf t d)) rfl trivial ?_
  obtain ⟨r2, hc, h⟩ := sd_q1_go h
  refine sm_W.cal (sm_C_mono D) (y := 159) (as := [.int x1, .int (1 : Int32), .int (30 : Int32)]) (fr' := (7, [some (.ref 61), some (.int x1), none], [], 0, 0)) rfl (T_Mo_within (by omega) hc ?_)
  show sm_W sm_sh X (sm_C sm_sh X sm_P D) me_217 Q (7, [some (.ref 61), some (.int x1), none], [.int r2], 0, 0) (I1, J, sm_rf t d)
  refine sm_W.run (sm_C_mono D) 1 (G := True) (fr' := (if decide (r2 = 0) = true then 16 else 8, [some (.ref 61), some (.int x1), none], [], 0, 0)) (M' := (I1, J, sm_rf t d)) rfl trivial (sm_W.iteD h (fun hc h => ?_) (fun hc h => ?_))
  · exact sm_W.forget (L' := [some (.ref 61), none, none]) ⟨rfl, trivial⟩ (G_Mo_days_16 hD h hQ)
  · obtain ⟨g3, h⟩ := sd_gu_go h
    refine sm_W.run (sm_C_mono D) 8 (G := sm_in (14 : Int32) 16 = true ∧ True) (fr' := (if decide (((I1 86 14) + x1) ≤ (999 : Int32)) = true then 20 else 16, [some (.ref 61), some (.int x1), none], [], 0, 0)) (M' := (I1, J, sm_rf t d)) rfl ⟨g3, trivial⟩ (sm_W.iteD h (fun hc h => ?_) (fun hc h => ?_))
    · refine sm_W.run (sm_C_mono D) 1 (G := True) (fr' := (21, [some (.ref 61), some (.int x1), none], [.ref 61], 0, 0)) (M' := (I1, J, sm_rf t d)) rfl trivial ?_
      obtain ⟨I4, hc, h⟩ := sd_q1_go h
      refine sm_W.cal (sm_C_mono D) (y := 193) (as := [.ref 61]) (fr' := (22, [some (.ref 61), some (.int x1), none], [], 0, 0)) rfl (T_Mo_keeps (by omega) hc ?_)
      show sm_W sm_sh X (sm_C sm_sh X sm_P D) me_217 Q (22, [some (.ref 61), some (.int x1), none], [], 0, 0) (I4, J, sm_rf t d)
      refine sm_W.run (sm_C_mono D) 2 (G := True) (fr' := (24, [some (.ref 61), some (.int x1), some (.int (0 : Int32))], [], 0, 0)) (M' := (I4, J, sm_rf t d)) rfl trivial ?_
      exact (G_Mo_days_24 hD hQ sd_fu _ _ _ h)
    · exact sm_W.forget (L' := [some (.ref 61), none, none]) ⟨rfl, trivial⟩ (G_Mo_days_16 hD h hQ)
theorem T_Mo_days {X : Nat × (Nat → Int32)} {t d D : Nat} {Q : sm_Q} {I : sm_MI} {J : sm_MJ} {x1 : Int32} {rz : Int32} {Iz : sm_MI}
    (hD : 8 ≤ D) (h : F_Mo_days x1 I = some (rz, Iz)) (hQ : Q (.inl (some (.int rz))) (Iz, J, sm_rf t d)) : sm_C sm_sh X sm_P D 217 [.ref 61, .int x1] (I, J, sm_rf t d) Q := by
  cases D with
  | zero => omega
  | succ D => exact sm_C.of (me := me_217) (L := [some (.ref 61), some (.int x1), none]) rfl rfl rfl (sm_W.forget (L' := [some (.ref 61), some (.int x1), none]) ⟨rfl, ⟨rfl, trivial⟩⟩ (G_Mo_days (by omega) h hQ))
-- 218 Mo_becomes
noncomputable def F_Mo_becomes (x1 : Int32) (x2 : Int32) (x3 : Int32) (I : sm_MI) : Option (Int32 × sm_MI) :=
  sd_gu (sm_in x1 16 = true) <|
  if (I 86 (Int32.toNatClampNeg x1)) = x2 then
    sd_q1 (F_Mo_keeps I) fun I2 =>
    sd_gu (sm_in x1 16 = true) <|
    sd_lt (sd_up I2 86 (Int32.toNatClampNeg x1) x3) fun I4 =>
    some ((1 : Int32), I4)
  else
    sd_q2 (F_Mo_refuses (1 : Int32) I) fun r5 I6 =>
    if r5 ≤ 0 then
      some ((0 : Int32), I6)
    else
      some ((1 : Int32), I6)
theorem G_Mo_becomes {X : Nat × (Nat → Int32)} {t d D : Nat} {Q : sm_Q} {I : sm_MI} {J : sm_MJ} {x1 : Int32} {x2 : Int32} {x3 : Int32} {rz : Int32} {Iz : sm_MI}
    (hD : 1 ≤ D) (h : F_Mo_becomes x1 x2 x3 I = some (rz, Iz)) (hQ : Q (.inl (some (.int rz))) (Iz, J, sm_rf t d))  : sm_W sm_sh X (sm_C sm_sh X sm_P D) me_218 Q (0, [some (.ref 61), some (.int x1), some (.int x2), some (.int x3)], [], 0, 0) (I, J, sm_rf t d) := by
  unfold F_Mo_becomes at h
  obtain ⟨g1, h⟩ := sd_gu_go h
  refine sm_W.run (sm_C_mono D) 6 (G := sm_in x1 16 = true ∧ True) (fr' := (if decide ((I 86 (Int32.toNatClampNeg x1)) = x2) = true then 14 else 6, [some (.ref 61), some (.int x1), some (.int x2), some (.int x3)], [], 0, 0)) (M' := (I, J, sm_rf t d)) rfl ⟨g1, trivial⟩ (sm_W.iteD h (fun hc h => ?_) (fun hc h => ?_))
  · refine sm_W.run (sm_C_mono D) 1 (G := True) (fr' := (15, [some (.ref 61), some (.int x1), some (.int x2), some (.int x3)], [.ref 61], 0, 0)) (M' := (I, J, sm_rf t d)) rfl trivial ?_
    obtain ⟨I2, hc, h⟩ := sd_q1_go h
    refine sm_W.cal (sm_C_mono D) (y := 193) (as := [.ref 61]) (fr' := (16, [some (.ref 61), some (.int x1), some (.int x2), some (.int x3)], [], 0, 0)) rfl (T_Mo_keeps (by omega) hc ?_)
    show sm_W sm_sh X (sm_C sm_sh X sm_P D) me_218 Q (16, [some (.ref 61), some (.int x1), some (.int x2), some (.int x3)], [], 0, 0) (I2, J, sm_rf t d)
    obtain ⟨g3, h⟩ := sd_gu_go h
    refine sm_W.runL (sm_C_mono D) 5 (G := sm_in x1 16 = true ∧ True) (e := (sd_up I2 86 (Int32.toNatClampNeg x1) x3)) (fr' := fun _ => (21, [some (.ref 61), some (.int x1), some (.int x2), some (.int x3)], [], 0, 0)) (M' := fun I4 => (I4, J, sm_rf t d)) rfl h ⟨g3, trivial⟩ (fun I4 h => ?_)
    refine sm_W.run (sm_C_mono D) 1 (G := True) (fr' := (22, [some (.ref 61), some (.int x1), some (.int x2), some (.int x3)], [.int (1 : Int32)], 0, 0)) (M' := (I4, J, sm_rf t d)) rfl trivial ?_
    cases h
    exact sm_W.ret (sm_C_mono D) rfl hQ
  · refine sm_W.run (sm_C_mono D) 2 (G := True) (fr' := (8, [some (.ref 61), some (.int x1), some (.int x2), some (.int x3)], [.int (1 : Int32), .ref 61], 0, 0)) (M' := (I, J, sm_rf t d)) rfl trivial ?_
    obtain ⟨r5, I6, hc, h⟩ := sd_q2_go h
    refine sm_W.cal (sm_C_mono D) (y := 194) (as := [.ref 61, .int (1 : Int32)]) (fr' := (9, [some (.ref 61), some (.int x1), some (.int x2), some (.int x3)], [], 0, 0)) rfl (T_Mo_refuses (by omega) hc ?_)
    show sm_W sm_sh X (sm_C sm_sh X sm_P D) me_218 Q (9, [some (.ref 61), some (.int x1), some (.int x2), some (.int x3)], [.int r5], 0, 0) (I6, J, sm_rf t d)
    refine sm_W.run (sm_C_mono D) 1 (G := True) (fr' := (if decide (r5 ≤ 0) = true then 12 else 10, [some (.ref 61), some (.int x1), some (.int x2), some (.int x3)], [], 0, 0)) (M' := (I6, J, sm_rf t d)) rfl trivial (sm_W.iteD h (fun hc h => ?_) (fun hc h => ?_))
    · refine sm_W.run (sm_C_mono D) 1 (G := True) (fr' := (13, [some (.ref 61), some (.int x1), some (.int x2), some (.int x3)], [.int (0 : Int32)], 0, 0)) (M' := (I6, J, sm_rf t d)) rfl trivial ?_
      cases h
      exact sm_W.ret (sm_C_mono D) rfl hQ
    · refine sm_W.run (sm_C_mono D) 2 (G := True) (fr' := (13, [some (.ref 61), some (.int x1), some (.int x2), some (.int x3)], [.int (1 : Int32)], 0, 0)) (M' := (I6, J, sm_rf t d)) rfl trivial ?_
      cases h
      exact sm_W.ret (sm_C_mono D) rfl hQ
theorem T_Mo_becomes {X : Nat × (Nat → Int32)} {t d D : Nat} {Q : sm_Q} {I : sm_MI} {J : sm_MJ} {x1 : Int32} {x2 : Int32} {x3 : Int32} {rz : Int32} {Iz : sm_MI}
    (hD : 2 ≤ D) (h : F_Mo_becomes x1 x2 x3 I = some (rz, Iz)) (hQ : Q (.inl (some (.int rz))) (Iz, J, sm_rf t d)) : sm_C sm_sh X sm_P D 218 [.ref 61, .int x1, .int x2, .int x3] (I, J, sm_rf t d) Q := by
  cases D with
  | zero => omega
  | succ D => exact sm_C.of (me := me_218) (L := [some (.ref 61), some (.int x1), some (.int x2), some (.int x3)]) rfl rfl rfl (sm_W.forget (L' := [some (.ref 61), some (.int x1), some (.int x2), some (.int x3)]) ⟨rfl, ⟨rfl, ⟨rfl, ⟨rfl, trivial⟩⟩⟩⟩ (G_Mo_becomes (by omega) h hQ))
-- 219 Mo_fall
noncomputable def F_Mo_fall (x1 : Int32) (I : sm_MI) : Option (Int32 × sm_MI) :=
  sd_lt (sd_up I 61 0 (0 : Int32)) fun I1 =>
  sd_q2 (F_Mo_isSinger x1 I1) fun r2 I3 =>
  if r2 = 0 then
    some ((0 : Int32), I3)
  else
    sd_q2 (F_Mo_becomes x1 (0 : Int32) (2 : Int32) I3) fun r4 I5 =>
    if r4 = 0 then
      some ((0 : Int32), I5)
    else
      some ((1 : Int32), I5)
theorem G_Mo_fall {X : Nat × (Nat → Int32)} {t d D : Nat} {Q : sm_Q} {I : sm_MI} {J : sm_MJ} {x1 : Int32} {rz : Int32} {Iz : sm_MI}
    (hD : 2 ≤ D) (h : F_Mo_fall x1 I = some (rz, Iz)) (hQ : Q (.inl (some (.int rz))) (Iz, J, sm_rf t d))  : sm_W sm_sh X (sm_C sm_sh X sm_P D) me_219 Q (0, [some (.ref 61), some (.int x1)], [], 0, 0) (I, J, sm_rf t d) := by
  unfold F_Mo_fall at h
  refine sm_W.runL (sm_C_mono D) 3 (G := True) (e := (sd_up I 61 0 (0 : Int32))) (fr' := fun _ => (3, [some (.ref 61), some (.int x1)], [], 0, 0)) (M' := fun I1 => (I1, J, sm_rf t d)) rfl h trivial (fun I1 h => ?_)
  refine sm_W.run (sm_C_mono D) 2 (G := True) (fr' := (5, [some (.ref 61), some (.int x1)], [.int x1, .ref 61], 0, 0)) (M' := (I1, J, sm_rf t d)) rfl trivial ?_
  obtain ⟨r2, I3, hc, h⟩ := sd_q2_go h
  refine sm_W.cal (sm_C_mono D) (y := 204) (as := [.ref 61, .int x1]) (fr' := (6, [some (.ref 61), some (.int x1)], [], 0, 0)) rfl (T_Mo_isSinger (by omega) hc ?_)
  show sm_W sm_sh X (sm_C sm_sh X sm_P D) me_219 Q (6, [some (.ref 61), some (.int x1)], [.int r2], 0, 0) (I3, J, sm_rf t d)
  refine sm_W.run (sm_C_mono D) 1 (G := True) (fr' := (if decide (r2 = 0) = true then 15 else 7, [some (.ref 61), some (.int x1)], [], 0, 0)) (M' := (I3, J, sm_rf t d)) rfl trivial (sm_W.iteD h (fun hc h => ?_) (fun hc h => ?_))
  · refine sm_W.run (sm_C_mono D) 1 (G := True) (fr' := (16, [some (.ref 61), some (.int x1)], [.int (0 : Int32)], 0, 0)) (M' := (I3, J, sm_rf t d)) rfl trivial ?_
    cases h
    exact sm_W.ret (sm_C_mono D) rfl hQ
  · refine sm_W.run (sm_C_mono D) 4 (G := True) (fr' := (11, [some (.ref 61), some (.int x1)], [.int (2 : Int32), .int (0 : Int32), .int x1, .ref 61], 0, 0)) (M' := (I3, J, sm_rf t d)) rfl trivial ?_
    obtain ⟨r4, I5, hc, h⟩ := sd_q2_go h
    refine sm_W.cal (sm_C_mono D) (y := 218) (as := [.ref 61, .int x1, .int (0 : Int32), .int (2 : Int32)]) (fr' := (12, [some (.ref 61), some (.int x1)], [], 0, 0)) rfl (T_Mo_becomes (by omega) hc ?_)
    show sm_W sm_sh X (sm_C sm_sh X sm_P D) me_219 Q (12, [some (.ref 61), some (.int x1)], [.int r4], 0, 0) (I5, J, sm_rf t d)
    refine sm_W.run (sm_C_mono D) 1 (G := True) (fr' := (if decide (r4 = 0) = true then 15 else 13, [some (.ref 61), some (.int x1)], [], 0, 0)) (M' := (I5, J, sm_rf t d)) rfl trivial (sm_W.iteD h (fun hc h => ?_) (fun hc h => ?_))
    · refine sm_W.run (sm_C_mono D) 1 (G := True) (fr' := (16, [some (.ref 61), some (.int x1)], [.int (0 : Int32)], 0, 0)) (M' := (I5, J, sm_rf t d)) rfl trivial ?_
      cases h
      exact sm_W.ret (sm_C_mono D) rfl hQ
    · refine sm_W.run (sm_C_mono D) 2 (G := True) (fr' := (16, [some (.ref 61), some (.int x1)], [.int (1 : Int32)], 0, 0)) (M' := (I5, J, sm_rf t d)) rfl trivial ?_
      cases h
      exact sm_W.ret (sm_C_mono D) rfl hQ
theorem T_Mo_fall {X : Nat × (Nat → Int32)} {t d D : Nat} {Q : sm_Q} {I : sm_MI} {J : sm_MJ} {x1 : Int32} {rz : Int32} {Iz : sm_MI}
    (hD : 3 ≤ D) (h : F_Mo_fall x1 I = some (rz, Iz)) (hQ : Q (.inl (some (.int rz))) (Iz, J, sm_rf t d)) : sm_C sm_sh X sm_P D 219 [.ref 61, .int x1] (I, J, sm_rf t d) Q := by
  cases D with
  | zero => omega
  | succ D => exact sm_C.of (me := me_219) (L := [some (.ref 61), some (.int x1)]) rfl rfl rfl (sm_W.forget (L' := [some (.ref 61), some (.int x1)]) ⟨rfl, ⟨rfl, trivial⟩⟩ (G_Mo_fall (by omega) h hQ))
-- 220 Mo_catches
noncomputable def F_Mo_catches (x1 : Int32) (I : sm_MI) : Option (Int32 × sm_MI) :=
  sd_lt (sd_up I 61 0 (0 : Int32)) fun I1 =>
  sd_q2 (F_Mo_isSinger x1 I1) fun r2 I3 =>
  if r2 = 0 then
    some ((0 : Int32), I3)
  else
    sd_q2 (F_Mo_becomes x1 (0 : Int32) (1 : Int32) I3) fun r4 I5 =>
    if r4 = 0 then
      some ((0 : Int32), I5)
    else
      some ((1 : Int32), I5)
theorem G_Mo_catches {X : Nat × (Nat → Int32)} {t d D : Nat} {Q : sm_Q} {I : sm_MI} {J : sm_MJ} {x1 : Int32} {rz : Int32} {Iz : sm_MI}
    (hD : 2 ≤ D) (h : F_Mo_catches x1 I = some (rz, Iz)) (hQ : Q (.inl (some (.int rz))) (Iz, J, sm_rf t d))  : sm_W sm_sh X (sm_C sm_sh X sm_P D) me_220 Q (0, [some (.ref 61), some (.int x1)], [], 0, 0) (I, J, sm_rf t d) := by
  unfold F_Mo_catches at h
  refine sm_W.runL (sm_C_mono D) 3 (G := True) (e := (sd_up I 61 0 (0 : Int32))) (fr' := fun _ => (3, [some (.ref 61), some (.int x1)], [], 0, 0)) (M' := fun I1 => (I1, J, sm_rf t d)) rfl h trivial (fun I1 h => ?_)
  refine sm_W.run (sm_C_mono D) 2 (G := True) (fr' := (5, [some (.ref 61), some (.int x1)], [.int x1, .ref 61], 0, 0)) (M' := (I1, J, sm_rf t d)) rfl trivial ?_
  obtain ⟨r2, I3, hc, h⟩ := sd_q2_go h
  refine sm_W.cal (sm_C_mono D) (y := 204) (as := [.ref 61, .int x1]) (fr' := (6, [some (.ref 61), some (.int x1)], [], 0, 0)) rfl (T_Mo_isSinger (by omega) hc ?_)
  show sm_W sm_sh X (sm_C sm_sh X sm_P D) me_220 Q (6, [some (.ref 61), some (.int x1)], [.int r2], 0, 0) (I3, J, sm_rf t d)
  refine sm_W.run (sm_C_mono D) 1 (G := True) (fr' := (if decide (r2 = 0) = true then 15 else 7, [some (.ref 61), some (.int x1)], [], 0, 0)) (M' := (I3, J, sm_rf t d)) rfl trivial (sm_W.iteD h (fun hc h => ?_) (fun hc h => ?_))
  · refine sm_W.run (sm_C_mono D) 1 (G := True) (fr' := (16, [some (.ref 61), some (.int x1)], [.int (0 : Int32)], 0, 0)) (M' := (I3, J, sm_rf t d)) rfl trivial ?_
    cases h
    exact sm_W.ret (sm_C_mono D) rfl hQ
  · refine sm_W.run (sm_C_mono D) 4 (G := True) (fr' := (11, [some (.ref 61), some (.int x1)], [.int (1 : Int32), .int (0 : Int32), .int x1, .ref 61], 0, 0)) (M' := (I3, J, sm_rf t d)) rfl trivial ?_
    obtain ⟨r4, I5, hc, h⟩ := sd_q2_go h
    refine sm_W.cal (sm_C_mono D) (y := 218) (as := [.ref 61, .int x1, .int (0 : Int32), .int (1 : Int32)]) (fr' := (12, [some (.ref 61), some (.int x1)], [], 0, 0)) rfl (T_Mo_becomes (by omega) hc ?_)
    show sm_W sm_sh X (sm_C sm_sh X sm_P D) me_220 Q (12, [some (.ref 61), some (.int x1)], [.int r4], 0, 0) (I5, J, sm_rf t d)
    refine sm_W.run (sm_C_mono D) 1 (G := True) (fr' := (if decide (r4 = 0) = true then 15 else 13, [some (.ref 61), some (.int x1)], [], 0, 0)) (M' := (I5, J, sm_rf t d)) rfl trivial (sm_W.iteD h (fun hc h => ?_) (fun hc h => ?_))
    · refine sm_W.run (sm_C_mono D) 1 (G := True) (fr' := (16, [some (.ref 61), some (.int x1)], [.int (0 : Int32)], 0, 0)) (M' := (I5, J, sm_rf t d)) rfl trivial ?_
      cases h
      exact sm_W.ret (sm_C_mono D) rfl hQ
    · refine sm_W.run (sm_C_mono D) 2 (G := True) (fr' := (16, [some (.ref 61), some (.int x1)], [.int (1 : Int32)], 0, 0)) (M' := (I5, J, sm_rf t d)) rfl trivial ?_
      cases h
      exact sm_W.ret (sm_C_mono D) rfl hQ
theorem T_Mo_catches {X : Nat × (Nat → Int32)} {t d D : Nat} {Q : sm_Q} {I : sm_MI} {J : sm_MJ} {x1 : Int32} {rz : Int32} {Iz : sm_MI}
    (hD : 3 ≤ D) (h : F_Mo_catches x1 I = some (rz, Iz)) (hQ : Q (.inl (some (.int rz))) (Iz, J, sm_rf t d)) : sm_C sm_sh X sm_P D 220 [.ref 61, .int x1] (I, J, sm_rf t d) Q := by
  cases D with
  | zero => omega
  | succ D => exact sm_C.of (me := me_220) (L := [some (.ref 61), some (.int x1)]) rfl rfl rfl (sm_W.forget (L' := [some (.ref 61), some (.int x1)]) ⟨rfl, ⟨rfl, trivial⟩⟩ (G_Mo_catches (by omega) h hQ))
-- 221 Mo_release
noncomputable def F_Mo_release (x1 : Int32) (I : sm_MI) : Option (Int32 × sm_MI) :=
  sd_lt (sd_up I 61 0 (0 : Int32)) fun I1 =>
  sd_q2 (F_Mo_isSinger x1 I1) fun r2 I3 =>
  if r2 = 0 then
    some ((0 : Int32), I3)
  else
    sd_q2 (F_Mo_becomes x1 (1 : Int32) (0 : Int32) I3) fun r4 I5 =>
    if r4 = 0 then
      some ((0 : Int32), I5)
    else
      some ((1 : Int32), I5)
theorem G_Mo_release {X : Nat × (Nat → Int32)} {t d D : Nat} {Q : sm_Q} {I : sm_MI} {J : sm_MJ} {x1 : Int32} {rz : Int32} {Iz : sm_MI}
    (hD : 2 ≤ D) (h : F_Mo_release x1 I = some (rz, Iz)) (hQ : Q (.inl (some (.int rz))) (Iz, J, sm_rf t d))  : sm_W sm_sh X (sm_C sm_sh X sm_P D) me_221 Q (0, [some (.ref 61), some (.int x1)], [], 0, 0) (I, J, sm_rf t d) := by
  unfold F_Mo_release at h
  refine sm_W.runL (sm_C_mono D) 3 (G := True) (e := (sd_up I 61 0 (0 : Int32))) (fr' := fun _ => (3, [some (.ref 61), some (.int x1)], [], 0, 0)) (M' := fun I1 => (I1, J, sm_rf t d)) rfl h trivial (fun I1 h => ?_)
  refine sm_W.run (sm_C_mono D) 2 (G := True) (fr' := (5, [some (.ref 61), some (.int x1)], [.int x1, .ref 61], 0, 0)) (M' := (I1, J, sm_rf t d)) rfl trivial ?_
  obtain ⟨r2, I3, hc, h⟩ := sd_q2_go h
  refine sm_W.cal (sm_C_mono D) (y := 204) (as := [.ref 61, .int x1]) (fr' := (6, [some (.ref 61), some (.int x1)], [], 0, 0)) rfl (T_Mo_isSinger (by omega) hc ?_)
  show sm_W sm_sh X (sm_C sm_sh X sm_P D) me_221 Q (6, [some (.ref 61), some (.int x1)], [.int r2], 0, 0) (I3, J, sm_rf t d)
  refine sm_W.run (sm_C_mono D) 1 (G := True) (fr' := (if decide (r2 = 0) = true then 15 else 7, [some (.ref 61), some (.int x1)], [], 0, 0)) (M' := (I3, J, sm_rf t d)) rfl trivial (sm_W.iteD h (fun hc h => ?_) (fun hc h => ?_))
  · refine sm_W.run (sm_C_mono D) 1 (G := True) (fr' := (16, [some (.ref 61), some (.int x1)], [.int (0 : Int32)], 0, 0)) (M' := (I3, J, sm_rf t d)) rfl trivial ?_
    cases h
    exact sm_W.ret (sm_C_mono D) rfl hQ
  · refine sm_W.run (sm_C_mono D) 4 (G := True) (fr' := (11, [some (.ref 61), some (.int x1)], [.int (0 : Int32), .int (1 : Int32), .int x1, .ref 61], 0, 0)) (M' := (I3, J, sm_rf t d)) rfl trivial ?_
    obtain ⟨r4, I5, hc, h⟩ := sd_q2_go h
    refine sm_W.cal (sm_C_mono D) (y := 218) (as := [.ref 61, .int x1, .int (1 : Int32), .int (0 : Int32)]) (fr' := (12, [some (.ref 61), some (.int x1)], [], 0, 0)) rfl (T_Mo_becomes (by omega) hc ?_)
    show sm_W sm_sh X (sm_C sm_sh X sm_P D) me_221 Q (12, [some (.ref 61), some (.int x1)], [.int r4], 0, 0) (I5, J, sm_rf t d)
    refine sm_W.run (sm_C_mono D) 1 (G := True) (fr' := (if decide (r4 = 0) = true then 15 else 13, [some (.ref 61), some (.int x1)], [], 0, 0)) (M' := (I5, J, sm_rf t d)) rfl trivial (sm_W.iteD h (fun hc h => ?_) (fun hc h => ?_))
    · refine sm_W.run (sm_C_mono D) 1 (G := True) (fr' := (16, [some (.ref 61), some (.int x1)], [.int (0 : Int32)], 0, 0)) (M' := (I5, J, sm_rf t d)) rfl trivial ?_
      cases h
      exact sm_W.ret (sm_C_mono D) rfl hQ
    · refine sm_W.run (sm_C_mono D) 2 (G := True) (fr' := (16, [some (.ref 61), some (.int x1)], [.int (1 : Int32)], 0, 0)) (M' := (I5, J, sm_rf t d)) rfl trivial ?_
      cases h
      exact sm_W.ret (sm_C_mono D) rfl hQ
theorem T_Mo_release {X : Nat × (Nat → Int32)} {t d D : Nat} {Q : sm_Q} {I : sm_MI} {J : sm_MJ} {x1 : Int32} {rz : Int32} {Iz : sm_MI}
    (hD : 3 ≤ D) (h : F_Mo_release x1 I = some (rz, Iz)) (hQ : Q (.inl (some (.int rz))) (Iz, J, sm_rf t d)) : sm_C sm_sh X sm_P D 221 [.ref 61, .int x1] (I, J, sm_rf t d) Q := by
  cases D with
  | zero => omega
  | succ D => exact sm_C.of (me := me_221) (L := [some (.ref 61), some (.int x1)]) rfl rfl rfl (sm_W.forget (L' := [some (.ref 61), some (.int x1)]) ⟨rfl, ⟨rfl, trivial⟩⟩ (G_Mo_release (by omega) h hQ))
-- 222 Mo_exchange
noncomputable def F_Mo_exchange_36 (I : sm_MI) : Option (Int32 × sm_MI) :=
  sd_q2 (F_Mo_refuses (1 : Int32) I) fun r1 I2 =>
  if r1 ≤ 0 then
    some ((0 : Int32), I2)
  else
    some ((1 : Int32), I2)
noncomputable def F_Mo_exchange (x1 : Int32) (x2 : Int32) (I : sm_MI) : Option (Int32 × sm_MI) :=
  sd_lt (sd_up I 61 0 (0 : Int32)) fun I1 =>
  sd_q2 (F_Mo_isSinger x1 I1) fun r2 I3 =>
  if r2 = 0 then
    some ((0 : Int32), I3)
  else
    sd_q2 (F_Mo_isSinger x2 I3) fun r4 I5 =>
    if ¬ r4 = 0 then
      sd_gu (sm_in x1 14 = true) <|
      if ¬ (I5 62 (Int32.toNatClampNeg x1)) = 0 then
        F_Mo_exchange_36 I5
      else
        sd_gu (sm_in x2 14 = true) <|
        if ¬ (I5 62 (Int32.toNatClampNeg x2)) = (1 : Int32) then
          F_Mo_exchange_36 I5
        else
          sd_gu (sm_in x1 16 = true) <|
          if ¬ (I5 86 (Int32.toNatClampNeg x1)) = (1 : Int32) then
            F_Mo_exchange_36 I5
          else
            sd_gu (sm_in x2 16 = true) <|
            if (I5 86 (Int32.toNatClampNeg x2)) = (1 : Int32) then
              sd_q1 (F_Mo_keeps I5) fun I10 =>
              sd_gu (sm_in x1 16 = true) <|
              sd_lt (sd_up I10 86 (Int32.toNatClampNeg x1) (0 : Int32)) fun I12 =>
              sd_gu (sm_in x2 16 = true) <|
              sd_lt (sd_up I12 86 (Int32.toNatClampNeg x2) (0 : Int32)) fun I14 =>
              some ((1 : Int32), I14)
            else
              F_Mo_exchange_36 I5
    else
      some ((0 : Int32), I5)
theorem G_Mo_exchange_36 {X : Nat × (Nat → Int32)} {t d D : Nat} {Q : sm_Q} {I : sm_MI} {J : sm_MJ} {rz : Int32} {Iz : sm_MI}
    (hD : 2 ≤ D) (h : F_Mo_exchange_36 I = some (rz, Iz)) (hQ : Q (.inl (some (.int rz))) (Iz, J, sm_rf t d))  : sm_W sm_sh X (sm_C sm_sh X sm_P D) me_222 Q (36, [some (.ref 61), none, none], [], 0, 0) (I, J, sm_rf t d) := by
  unfold F_Mo_exchange_36 at h
  refine sm_W.run (sm_C_mono D) 2 (G := True) (fr' := (38, [some (.ref 61), none, none], [.int (1 : Int32), .ref 61], 0, 0)) (M' := (I, J, sm_rf t d)) rfl trivial ?_
  obtain ⟨r1, I2, hc, h⟩ := sd_q2_go h
  refine sm_W.cal (sm_C_mono D) (y := 194) (as := [.ref 61, .int (1 : Int32)]) (fr' := (39, [some (.ref 61), none, none], [], 0, 0)) rfl (T_Mo_refuses (by omega) hc ?_)
  show sm_W sm_sh X (sm_C sm_sh X sm_P D) me_222 Q (39, [some (.ref 61), none, none], [.int r1], 0, 0) (I2, J, sm_rf t d)
  refine sm_W.run (sm_C_mono D) 1 (G := True) (fr' := (if decide (r1 ≤ 0) = true then 42 else 40, [some (.ref 61), none, none], [], 0, 0)) (M' := (I2, J, sm_rf t d)) rfl trivial (sm_W.iteD h (fun hc h => ?_) (fun hc h => ?_))
  · refine sm_W.run (sm_C_mono D) 1 (G := True) (fr' := (43, [some (.ref 61), none, none], [.int (0 : Int32)], 0, 0)) (M' := (I2, J, sm_rf t d)) rfl trivial ?_
    cases h
    exact sm_W.ret (sm_C_mono D) rfl hQ
  · refine sm_W.run (sm_C_mono D) 2 (G := True) (fr' := (43, [some (.ref 61), none, none], [.int (1 : Int32)], 0, 0)) (M' := (I2, J, sm_rf t d)) rfl trivial ?_
    cases h
    exact sm_W.ret (sm_C_mono D) rfl hQ
theorem G_Mo_exchange {X : Nat × (Nat → Int32)} {t d D : Nat} {Q : sm_Q} {I : sm_MI} {J : sm_MJ} {x1 : Int32} {x2 : Int32} {rz : Int32} {Iz : sm_MI}
    (hD : 2 ≤ D) (h : F_Mo_exchange x1 x2 I = some (rz, Iz)) (hQ : Q (.inl (some (.int rz))) (Iz, J, sm_rf t d))  : sm_W sm_sh X (sm_C sm_sh X sm_P D) me_222 Q (0, [some (.ref 61), some (.int x1), some (.int x2)], [], 0, 0) (I, J, sm_rf t d) := by
  unfold F_Mo_exchange at h
  refine sm_W.runL (sm_C_mono D) 3 (G := True) (e := (sd_up I 61 0 (0 : Int32))) (fr' := fun _ => (3, [some (.ref 61), some (.int x1), some (.int x2)], [], 0, 0)) (M' := fun I1 => (I1, J, sm_rf t d)) rfl h trivial (fun I1 h => ?_)
  refine sm_W.run (sm_C_mono D) 2 (G := True) (fr' := (5, [some (.ref 61), some (.int x1), some (.int x2)], [.int x1, .ref 61], 0, 0)) (M' := (I1, J, sm_rf t d)) rfl trivial ?_
  obtain ⟨r2, I3, hc, h⟩ := sd_q2_go h
  refine sm_W.cal (sm_C_mono D) (y := 204) (as := [.ref 61, .int x1]) (fr' := (6, [some (.ref 61), some (.int x1), some (.int x2)], [], 0, 0)) rfl (T_Mo_isSinger (by omega) hc ?_)
  show sm_W sm_sh X (sm_C sm_sh X sm_P D) me_222 Q (6, [some (.ref 61), some (.int x1), some (.int x2)], [.int r2], 0, 0) (I3, J, sm_rf t d)
  refine sm_W.run (sm_C_mono D) 1 (G := True) (fr' := (if decide (r2 = 0) = true then 11 else 7, [some (.ref 61), some (.int x1), some (.int x2)], [], 0, 0)) (M' := (I3, J, sm_rf t d)) rfl trivial (sm_W.iteD h (fun hc h => ?_) (fun hc h => ?_))
  · refine sm_W.run (sm_C_mono D) 1 (G := True) (fr' := (12, [some (.ref 61), some (.int x1), some (.int x2)], [.int (0 : Int32)], 0, 0)) (M' := (I3, J, sm_rf t d)) rfl trivial ?_
    cases h
    exact sm_W.ret (sm_C_mono D) rfl hQ
  · refine sm_W.run (sm_C_mono D) 2 (G := True) (fr' := (9, [some (.ref 61), some (.int x1), some (.int x2)], [.int x2, .ref 61], 0, 0)) (M' := (I3, J, sm_rf t d)) rfl trivial ?_
    obtain ⟨r4, I5, hc, h⟩ := sd_q2_go h
    refine sm_W.cal (sm_C_mono D) (y := 204) (as := [.ref 61, .int x2]) (fr' := (10, [some (.ref 61), some (.int x1), some (.int x2)], [], 0, 0)) rfl (T_Mo_isSinger (by omega) hc ?_)
    show sm_W sm_sh X (sm_C sm_sh X sm_P D) me_222 Q (10, [some (.ref 61), some (.int x1), some (.int x2)], [.int r4], 0, 0) (I5, J, sm_rf t d)
    refine sm_W.run (sm_C_mono D) 1 (G := True) (fr' := (if decide (¬ r4 = 0) = true then 13 else 11, [some (.ref 61), some (.int x1), some (.int x2)], [], 0, 0)) (M' := (I5, J, sm_rf t d)) rfl trivial (sm_W.iteD h (fun hc h => ?_) (fun hc h => ?_))
    · obtain ⟨g6, h⟩ := sd_gu_go h
      refine sm_W.run (sm_C_mono D) 5 (G := sm_in x1 14 = true ∧ True) (fr' := (if decide (¬ (I5 62 (Int32.toNatClampNeg x1)) = 0) = true then 36 else 18, [some (.ref 61), some (.int x1), some (.int x2)], [], 0, 0)) (M' := (I5, J, sm_rf t d)) rfl ⟨g6, trivial⟩ (sm_W.iteD h (fun hc h => ?_) (fun hc h => ?_))
      · exact sm_W.forget (L' := [some (.ref 61), none, none]) ⟨rfl, trivial⟩ (G_Mo_exchange_36 hD h hQ)
      · obtain ⟨g7, h⟩ := sd_gu_go h
        refine sm_W.run (sm_C_mono D) 6 (G := sm_in x2 14 = true ∧ True) (fr' := (if decide (¬ (I5 62 (Int32.toNatClampNeg x2)) = (1 : Int32)) = true then 36 else 24, [some (.ref 61), some (.int x1), some (.int x2)], [], 0, 0)) (M' := (I5, J, sm_rf t d)) rfl ⟨g7, trivial⟩ (sm_W.iteD h (fun hc h => ?_) (fun hc h => ?_))
        · exact sm_W.forget (L' := [some (.ref 61), none, none]) ⟨rfl, trivial⟩ (G_Mo_exchange_36 hD h hQ)
        · obtain ⟨g8, h⟩ := sd_gu_go h
          refine sm_W.run (sm_C_mono D) 6 (G := sm_in x1 16 = true ∧ True) (fr' := (if decide (¬ (I5 86 (Int32.toNatClampNeg x1)) = (1 : Int32)) = true then 36 else 30, [some (.ref 61), some (.int x1), some (.int x2)], [], 0, 0)) (M' := (I5, J, sm_rf t d)) rfl ⟨g8, trivial⟩ (sm_W.iteD h (fun hc h => ?_) (fun hc h => ?_))
          · exact sm_W.forget (L' := [some (.ref 61), none, none]) ⟨rfl, trivial⟩ (G_Mo_exchange_36 hD h hQ)
          · obtain ⟨g9, h⟩ := sd_gu_go h
            refine sm_W.run (sm_C_mono D) 6 (G := sm_in x2 16 = true ∧ True) (fr' := (if decide ((I5 86 (Int32.toNatClampNeg x2)) = (1 : Int32)) = true then 44 else 36, [some (.ref 61), some (.int x1), some (.int x2)], [], 0, 0)) (M' := (I5, J, sm_rf t d)) rfl ⟨g9, trivial⟩ (sm_W.iteD h (fun hc h => ?_) (fun hc h => ?_))
            · refine sm_W.run (sm_C_mono D) 1 (G := True) (fr' := (45, [some (.ref 61), some (.int x1), some (.int x2)], [.ref 61], 0, 0)) (M' := (I5, J, sm_rf t d)) rfl trivial ?_
              obtain ⟨I10, hc, h⟩ := sd_q1_go h
              refine sm_W.cal (sm_C_mono D) (y := 193) (as := [.ref 61]) (fr' := (46, [some (.ref 61), some (.int x1), some (.int x2)], [], 0, 0)) rfl (T_Mo_keeps (by omega) hc ?_)
              show sm_W sm_sh X (sm_C sm_sh X sm_P D) me_222 Q (46, [some (.ref 61), some (.int x1), some (.int x2)], [], 0, 0) (I10, J, sm_rf t d)
              obtain ⟨g11, h⟩ := sd_gu_go h
              refine sm_W.runL (sm_C_mono D) 5 (G := sm_in x1 16 = true ∧ True) (e := (sd_up I10 86 (Int32.toNatClampNeg x1) (0 : Int32))) (fr' := fun _ => (51, [some (.ref 61), some (.int x1), some (.int x2)], [], 0, 0)) (M' := fun I12 => (I12, J, sm_rf t d)) rfl h ⟨g11, trivial⟩ (fun I12 h => ?_)
              obtain ⟨g13, h⟩ := sd_gu_go h
              refine sm_W.runL (sm_C_mono D) 5 (G := sm_in x2 16 = true ∧ True) (e := (sd_up I12 86 (Int32.toNatClampNeg x2) (0 : Int32))) (fr' := fun _ => (56, [some (.ref 61), some (.int x1), some (.int x2)], [], 0, 0)) (M' := fun I14 => (I14, J, sm_rf t d)) rfl h ⟨g13, trivial⟩ (fun I14 h => ?_)
              refine sm_W.run (sm_C_mono D) 1 (G := True) (fr' := (57, [some (.ref 61), some (.int x1), some (.int x2)], [.int (1 : Int32)], 0, 0)) (M' := (I14, J, sm_rf t d)) rfl trivial ?_
              cases h
              exact sm_W.ret (sm_C_mono D) rfl hQ
            · exact sm_W.forget (L' := [some (.ref 61), none, none]) ⟨rfl, trivial⟩ (G_Mo_exchange_36 hD h hQ)
    · refine sm_W.run (sm_C_mono D) 1 (G := True) (fr' := (12, [some (.ref 61), some (.int x1), some (.int x2)], [.int (0 : Int32)], 0, 0)) (M' := (I5, J, sm_rf t d)) rfl trivial ?_
      cases h
      exact sm_W.ret (sm_C_mono D) rfl hQ
theorem T_Mo_exchange {X : Nat × (Nat → Int32)} {t d D : Nat} {Q : sm_Q} {I : sm_MI} {J : sm_MJ} {x1 : Int32} {x2 : Int32} {rz : Int32} {Iz : sm_MI}
    (hD : 3 ≤ D) (h : F_Mo_exchange x1 x2 I = some (rz, Iz)) (hQ : Q (.inl (some (.int rz))) (Iz, J, sm_rf t d)) : sm_C sm_sh X sm_P D 222 [.ref 61, .int x1, .int x2] (I, J, sm_rf t d) Q := by
  cases D with
  | zero => omega
  | succ D => exact sm_C.of (me := me_222) (L := [some (.ref 61), some (.int x1), some (.int x2)]) rfl rfl rfl (sm_W.forget (L' := [some (.ref 61), some (.int x1), some (.int x2)]) ⟨rfl, ⟨rfl, ⟨rfl, trivial⟩⟩⟩ (G_Mo_exchange (by omega) h hQ))
-- 223 Mo_movedFor
noncomputable def F_Mo_movedFor_4B (k4 : Int32 → Int32 → Int32 → Int32 → Int32 → Option (Int32)) (x1 : Int32) (x2 : Int32) (x3 : Int32) (x4 : Int32) (x5 : Int32) (I : sm_MI) : Option (Int32) :=
  sd_gu (sm_in x1 20 = true) <|
  if (I 68 (Int32.toNatClampNeg x1)) ≤ x5 then
    some (x4)
  else
    sd_gu (sm_in (((12 : Int32) * x1) + x5) 240 = true) <|
    sd_lt (I 69 (Int32.toNatClampNeg (((12 : Int32) * x1) + x5))) fun a3 =>
    sd_q1 (F_Mo_within a3 x2 x3) fun r4 =>
    if r4 = 0 then
      sd_q1 (F_Mo_within (a3 - (12 : Int32)) x2 x3) fun r5 =>
      if ¬ r5 = 0 then
        k4 x1 x2 x3 (x4 + (1 : Int32)) (x5 + (1 : Int32))
      else
        sd_q1 (F_Mo_within (a3 + (12 : Int32)) x2 x3) fun r6 =>
        if ¬ r6 = 0 then
          k4 x1 x2 x3 (x4 + (1 : Int32)) (x5 + (1 : Int32))
        else
          some ((-1 : Int32))
    else
      k4 x1 x2 x3 x4 (x5 + (1 : Int32))
noncomputable def F_Mo_movedFor_4 (I : sm_MI) (n : Nat) : Int32 → Int32 → Int32 → Int32 → Int32 → Option (Int32) :=
  sd_fix (fun k x1 x2 x3 x4 x5 => F_Mo_movedFor_4B k x1 x2 x3 x4 x5 I) (fun _ _ _ _ _ => none) n
noncomputable def F_Mo_movedFor (x1 : Int32) (x2 : Int32) (x3 : Int32) (I : sm_MI) : Option (Int32) :=
  F_Mo_movedFor_4 I sd_fu x1 x2 x3 (0 : Int32) (0 : Int32)
theorem G_Mo_movedFor_4B {X : Nat × (Nat → Int32)} {t d D : Nat} {Q : sm_Q} {I : sm_MI} {J : sm_MJ} {k4 : Int32 → Int32 → Int32 → Int32 → Int32 → Option (Int32)} {x1 : Int32} {x2 : Int32} {x3 : Int32} {x4 : Int32} {x5 : Int32} {rz : Int32}
    (hD : 1 ≤ D) (h : F_Mo_movedFor_4B k4 x1 x2 x3 x4 x5 I = some (rz)) (hQ : Q (.inl (some (.int rz))) (I, J, sm_rf t d)) (hk4 : ∀ (x1 : Int32) (x2 : Int32) (x3 : Int32) (x4 : Int32) (x5 : Int32), k4 x1 x2 x3 x4 x5 = some (rz) → sm_W sm_sh X (sm_C sm_sh X sm_P D) me_223 Q (4, [some (.ref 61), some (.int x1), some (.int x2), some (.int x3), some (.int x4), some (.int x5), none], [], 0, 0) (I, J, sm_rf t d)) : sm_W sm_sh X (sm_C sm_sh X sm_P D) me_223 Q (4, [some (.ref 61), some (.int x1), some (.int x2), some (.int x3), some (.int x4), some (.int x5), none], [], 0, 0) (I, J, sm_rf t d) := by
  unfold F_Mo_movedFor_4B at h
  obtain ⟨g1, h⟩ := sd_gu_go h
  refine sm_W.run (sm_C_mono D) 6 (G := sm_in x1 20 = true ∧ True) (fr' := (if decide ((I 68 (Int32.toNatClampNeg x1)) ≤ x5) = true then 44 else 10, [some (.ref 61), some (.int x1), some (.int x2), some (.int x3), some (.int x4), some (.int x5), none], [], 0, 0)) (M' := (I, J, sm_rf t d)) rfl ⟨g1, trivial⟩ (sm_W.iteD h (fun hc h => ?_) (fun hc h => ?_))
  · refine sm_W.run (sm_C_mono D) 1 (G := True) (fr' := (45, [some (.ref 61), some (.int x1), some (.int x2), some (.int x3), some (.int x4), some (.int x5), none], [.int x4], 0, 0)) (M' := (I, J, sm_rf t d)) rfl trivial ?_
    cases h
    exact sm_W.ret (sm_C_mono D) rfl hQ
  · obtain ⟨g2, h⟩ := sd_gu_go h
    refine sm_W.runL (sm_C_mono D) 9 (G := sm_in (((12 : Int32) * x1) + x5) 240 = true ∧ True) (e := (I 69 (Int32.toNatClampNeg (((12 : Int32) * x1) + x5)))) (fr' := fun a3 => (19, [some (.ref 61), some (.int x1), some (.int x2), some (.int x3), some (.int x4), some (.int x5), some (.int a3)], [], 0, 0)) (M' := fun _ => (I, J, sm_rf t d)) rfl h ⟨g2, trivial⟩ (fun a3 h => ?_)
    refine sm_W.run (sm_C_mono D) 3 (G := True) (fr' := (22, [some (.ref 61), some (.int x1), some (.int x2), some (.int x3), some (.int x4), some (.int x5), some (.int a3)], [.int x3, .int x2, .int a3], 0, 0)) (M' := (I, J, sm_rf t d)) rfl trivial ?_
    obtain ⟨r4, hc, h⟩ := sd_q1_go h
    refine sm_W.cal (sm_C_mono D) (y := 159) (as := [.int a3, .int x2, .int x3]) (fr' := (23, [some (.ref 61), some (.int x1), some (.int x2), some (.int x3), some (.int x4), some (.int x5), some (.int a3)], [], 0, 0)) rfl (T_Mo_within (by omega) hc ?_)
    show sm_W sm_sh X (sm_C sm_sh X sm_P D) me_223 Q (23, [some (.ref 61), some (.int x1), some (.int x2), some (.int x3), some (.int x4), some (.int x5), some (.int a3)], [.int r4], 0, 0) (I, J, sm_rf t d)
    refine sm_W.run (sm_C_mono D) 1 (G := True) (fr' := (if decide (r4 = 0) = true then 25 else 24, [some (.ref 61), some (.int x1), some (.int x2), some (.int x3), some (.int x4), some (.int x5), some (.int a3)], [], 0, 0)) (M' := (I, J, sm_rf t d)) rfl trivial (sm_W.iteD h (fun hc h => ?_) (fun hc h => ?_))
    · refine sm_W.run (sm_C_mono D) 5 (G := True) (fr' := (30, [some (.ref 61), some (.int x1), some (.int x2), some (.int x3), some (.int x4), some (.int x5), some (.int a3)], [.int x3, .int x2, .int (a3 - (12 : Int32))], 0, 0)) (M' := (I, J, sm_rf t d)) rfl trivial ?_
      obtain ⟨r5, hc, h⟩ := sd_q1_go h
      refine sm_W.cal (sm_C_mono D) (y := 159) (as := [.int (a3 - (12 : Int32)), .int x2, .int x3]) (fr' := (31, [some (.ref 61), some (.int x1), some (.int x2), some (.int x3), some (.int x4), some (.int x5), some (.int a3)], [], 0, 0)) rfl (T_Mo_within (by omega) hc ?_)
      show sm_W sm_sh X (sm_C sm_sh X sm_P D) me_223 Q (31, [some (.ref 61), some (.int x1), some (.int x2), some (.int x3), some (.int x4), some (.int x5), some (.int a3)], [.int r5], 0, 0) (I, J, sm_rf t d)
      refine sm_W.run (sm_C_mono D) 1 (G := True) (fr' := (if decide (¬ r5 = 0) = true then 41 else 32, [some (.ref 61), some (.int x1), some (.int x2), some (.int x3), some (.int x4), some (.int x5), some (.int a3)], [], 0, 0)) (M' := (I, J, sm_rf t d)) rfl trivial (sm_W.iteD h (fun hc h => ?_) (fun hc h => ?_))
      · refine sm_W.run (sm_C_mono D) 3 (G := True) (fr' := (4, [some (.ref 61), some (.int x1), some (.int x2), some (.int x3), some (.int (x4 + (1 : Int32))), some (.int (x5 + (1 : Int32))), some (.int a3)], [], 0, 0)) (M' := (I, J, sm_rf t d)) rfl trivial ?_
        exact sm_W.forget (L' := [some (.ref 61), some (.int x1), some (.int x2), some (.int x3), some (.int (x4 + (1 : Int32))), some (.int (x5 + (1 : Int32))), none]) ⟨rfl, ⟨rfl, ⟨rfl, ⟨rfl, ⟨rfl, ⟨rfl, trivial⟩⟩⟩⟩⟩⟩ (hk4 _ _ _ _ _ h)
      · refine sm_W.run (sm_C_mono D) 5 (G := True) (fr' := (37, [some (.ref 61), some (.int x1), some (.int x2), some (.int x3), some (.int x4), some (.int x5), some (.int a3)], [.int x3, .int x2, .int (a3 + (12 : Int32))], 0, 0)) (M' := (I, J, sm_rf t d)) rfl trivial ?_
        obtain ⟨r6, hc, h⟩ := sd_q1_go h
        refine sm_W.cal (sm_C_mono D) (y := 159) (as := [.int (a3 + (12 : Int32)), .int x2, .int x3]) (fr' := (38, [some (.ref 61), some (.int x1), some (.int x2), some (.int x3), some (.int x4), some (.int x5), some (.int a3)], [], 0, 0)) rfl (T_Mo_within (by omega) hc ?_)
        show sm_W sm_sh X (sm_C sm_sh X sm_P D) me_223 Q (38, [some (.ref 61), some (.int x1), some (.int x2), some (.int x3), some (.int x4), some (.int x5), some (.int a3)], [.int r6], 0, 0) (I, J, sm_rf t d)
        refine sm_W.run (sm_C_mono D) 1 (G := True) (fr' := (if decide (¬ r6 = 0) = true then 41 else 39, [some (.ref 61), some (.int x1), some (.int x2), some (.int x3), some (.int x4), some (.int x5), some (.int a3)], [], 0, 0)) (M' := (I, J, sm_rf t d)) rfl trivial (sm_W.iteD h (fun hc h => ?_) (fun hc h => ?_))
        · refine sm_W.run (sm_C_mono D) 3 (G := True) (fr' := (4, [some (.ref 61), some (.int x1), some (.int x2), some (.int x3), some (.int (x4 + (1 : Int32))), some (.int (x5 + (1 : Int32))), some (.int a3)], [], 0, 0)) (M' := (I, J, sm_rf t d)) rfl trivial ?_
          exact sm_W.forget (L' := [some (.ref 61), some (.int x1), some (.int x2), some (.int x3), some (.int (x4 + (1 : Int32))), some (.int (x5 + (1 : Int32))), none]) ⟨rfl, ⟨rfl, ⟨rfl, ⟨rfl, ⟨rfl, ⟨rfl, trivial⟩⟩⟩⟩⟩⟩ (hk4 _ _ _ _ _ h)
        · refine sm_W.run (sm_C_mono D) 1 (G := True) (fr' := (40, [some (.ref 61), some (.int x1), some (.int x2), some (.int x3), some (.int x4), some (.int x5), some (.int a3)], [.int (-1 : Int32)], 0, 0)) (M' := (I, J, sm_rf t d)) rfl trivial ?_
          cases h
          exact sm_W.ret (sm_C_mono D) rfl hQ
    · refine sm_W.run (sm_C_mono D) 3 (G := True) (fr' := (4, [some (.ref 61), some (.int x1), some (.int x2), some (.int x3), some (.int x4), some (.int (x5 + (1 : Int32))), some (.int a3)], [], 0, 0)) (M' := (I, J, sm_rf t d)) rfl trivial ?_
      exact sm_W.forget (L' := [some (.ref 61), some (.int x1), some (.int x2), some (.int x3), some (.int x4), some (.int (x5 + (1 : Int32))), none]) ⟨rfl, ⟨rfl, ⟨rfl, ⟨rfl, ⟨rfl, ⟨rfl, trivial⟩⟩⟩⟩⟩⟩ (hk4 _ _ _ _ _ h)
theorem G_Mo_movedFor_4 {X : Nat × (Nat → Int32)} {t d D : Nat} {Q : sm_Q} {I : sm_MI} {J : sm_MJ} {rz : Int32}
    (hD : 1 ≤ D) (hQ : Q (.inl (some (.int rz))) (I, J, sm_rf t d))  : ∀ (n : Nat) (x1 : Int32) (x2 : Int32) (x3 : Int32) (x4 : Int32) (x5 : Int32), F_Mo_movedFor_4 I n x1 x2 x3 x4 x5 = some (rz) → sm_W sm_sh X (sm_C sm_sh X sm_P D) me_223 Q (4, [some (.ref 61), some (.int x1), some (.int x2), some (.int x3), some (.int x4), some (.int x5), none], [], 0, 0) (I, J, sm_rf t d) := by
  intro n
  induction n with
  | zero => intro x1 x2 x3 x4 x5 h; cases (show (none : Option (Int32)) = some (rz) from h)
  | succ n ih => intro x1 x2 x3 x4 x5 h; exact G_Mo_movedFor_4B hD (show F_Mo_movedFor_4B (F_Mo_movedFor_4 I n) x1 x2 x3 x4 x5 I = some (rz) from h) hQ  ih
theorem G_Mo_movedFor {X : Nat × (Nat → Int32)} {t d D : Nat} {Q : sm_Q} {I : sm_MI} {J : sm_MJ} {x1 : Int32} {x2 : Int32} {x3 : Int32} {rz : Int32}
    (hD : 1 ≤ D) (h : F_Mo_movedFor x1 x2 x3 I = some (rz)) (hQ : Q (.inl (some (.int rz))) (I, J, sm_rf t d))  : sm_W sm_sh X (sm_C sm_sh X sm_P D) me_223 Q (0, [some (.ref 61), some (.int x1), some (.int x2), some (.int x3), none, none, none], [], 0, 0) (I, J, sm_rf t d) := by
  unfold F_Mo_movedFor at h
  refine sm_W.run (sm_C_mono D) 4 (G := True) (fr' := (4, [some (.ref 61), some (.int x1), some (.int x2), some (.int x3), some (.int (0 : Int32)), some (.int (0 : Int32)), none], [], 0, 0)) (M' := (I, J, sm_rf t d)) rfl trivial ?_
  exact (G_Mo_movedFor_4 hD hQ sd_fu _ _ _ _ _ h)
theorem T_Mo_movedFor {X : Nat × (Nat → Int32)} {t d D : Nat} {Q : sm_Q} {I : sm_MI} {J : sm_MJ} {x1 : Int32} {x2 : Int32} {x3 : Int32} {rz : Int32}
    (hD : 2 ≤ D) (h : F_Mo_movedFor x1 x2 x3 I = some (rz)) (hQ : Q (.inl (some (.int rz))) (I, J, sm_rf t d)) : sm_C sm_sh X sm_P D 223 [.ref 61, .int x1, .int x2, .int x3] (I, J, sm_rf t d) Q := by
  cases D with
  | zero => omega
  | succ D => exact sm_C.of (me := me_223) (L := [some (.ref 61), some (.int x1), some (.int x2), some (.int x3), none, none, none]) rfl rfl rfl (sm_W.forget (L' := [some (.ref 61), some (.int x1), some (.int x2), some (.int x3), none, none, none]) ⟨rfl, ⟨rfl, ⟨rfl, ⟨rfl, trivial⟩⟩⟩⟩ (G_Mo_movedFor (by omega) h hQ))
-- 224 Mo_movedIn
noncomputable def F_Mo_movedIn_88 (k16 : Int32 → Int32 → Int32 → Int32 → Int32 → Option (Int32)) (x1 : Int32) (x2 : Int32) (x3 : Int32) (x4 : Int32) (x5 : Int32) (s0 : Int32) (I : sm_MI) : Option (Int32) :=
  if s0 = (-1 : Int32) then
    k16 x1 x2 x3 x4 (x5 + (1 : Int32))
  else
    if x2 = (-1 : Int32) then
      k16 x1 s0 x3 x4 (x5 + (1 : Int32))
    else
      if x2 ≤ s0 then
        k16 x1 x2 x3 x4 (x5 + (1 : Int32))
      else
        k16 x1 s0 x3 x4 (x5 + (1 : Int32))
noncomputable def F_Mo_movedIn_24B (k16 : Int32 → Int32 → Int32 → Int32 → Int32 → Option (Int32)) (k24 : Int32 → Int32 → Int32 → Int32 → Int32 → Int32 → Int32 → Option (Int32)) (x1 : Int32) (x2 : Int32) (x3 : Int32) (x4 : Int32) (x5 : Int32) (x6 : Int32) (x7 : Int32) (I : sm_MI) : Option (Int32) :=
  if (I 61 1) ≤ x7 then
    sd_gu (sm_in x1 20 = true) <|
    if (I 67 (Int32.toNatClampNeg x1)) ≤ x6 then
      sd_gu (sm_in x4 14 = true) <|
      sd_gu (sm_in x5 14 = true) <|
      sd_q1 (F_Mo_movedFor x1 (I 64 (Int32.toNatClampNeg x4)) (I 65 (Int32.toNatClampNeg x5)) I) fun r4 =>
      F_Mo_movedIn_88 k16 x1 x2 x3 x4 x5 r4 I
    else
      F_Mo_movedIn_88 k16 x1 x2 x3 x4 x5 (-1 : Int32) I
  else
    if ¬ ((x3 >>> (x7 &&& 31)) &&& (1 : Int32)) = (1 : Int32) then
      sd_lt (x6 + (0 : Int32)) fun a5 =>
      k24 x1 x2 x3 x4 x5 a5 (x7 + (1 : Int32))
    else
      sd_gu (sm_in x7 14 = true) <|
      sd_gu (¬ (4 : Int32) = 0) <|
      if ¬ (I 63 (Int32.toNatClampNeg x7)) = (sd_mod x1 (4 : Int32)) then
        sd_lt (x6 + (0 : Int32)) fun a8 =>
        k24 x1 x2 x3 x4 x5 a8 (x7 + (1 : Int32))
      else
        sd_gu (sm_in x7 14 = true) <|
        sd_gu (sm_in x4 14 = true) <|
        if (I 64 (Int32.toNatClampNeg x4)) < (I 64 (Int32.toNatClampNeg x7)) then
          sd_lt (x6 + (0 : Int32)) fun a11 =>
          k24 x1 x2 x3 x4 x5 a11 (x7 + (1 : Int32))
        else
          sd_gu (sm_in x7 14 = true) <|
          sd_gu (sm_in x5 14 = true) <|
          if (I 65 (Int32.toNatClampNeg x7)) < (I 65 (Int32.toNatClampNeg x5)) then
            sd_lt (x6 + (0 : Int32)) fun a14 =>
            k24 x1 x2 x3 x4 x5 a14 (x7 + (1 : Int32))
          else
            sd_lt (x6 + (1 : Int32)) fun a15 =>
            k24 x1 x2 x3 x4 x5 a15 (x7 + (1 : Int32))
noncomputable def F_Mo_movedIn_24 (k16 : Int32 → Int32 → Int32 → Int32 → Int32 → Option (Int32)) (I : sm_MI) (n : Nat) : Int32 → Int32 → Int32 → Int32 → Int32 → Int32 → Int32 → Option (Int32) :=
  sd_fix (fun k x1 x2 x3 x4 x5 x6 x7 => F_Mo_movedIn_24B k16 k x1 x2 x3 x4 x5 x6 x7 I) (fun _ _ _ _ _ _ _ => none) n
noncomputable def F_Mo_movedIn_16B (k10 : Int32 → Int32 → Int32 → Int32 → Option (Int32)) (k16 : Int32 → Int32 → Int32 → Int32 → Int32 → Option (Int32)) (x1 : Int32) (x2 : Int32) (x3 : Int32) (x4 : Int32) (x5 : Int32) (I : sm_MI) : Option (Int32) :=
  if (I 61 1) ≤ x5 then
    k10 x1 x2 x3 (x4 + (1 : Int32))
  else
    F_Mo_movedIn_24 k16 I sd_fu x1 x2 x3 x4 x5 (0 : Int32) (0 : Int32)
noncomputable def F_Mo_movedIn_16 (k10 : Int32 → Int32 → Int32 → Int32 → Option (Int32)) (I : sm_MI) (n : Nat) : Int32 → Int32 → Int32 → Int32 → Int32 → Option (Int32) :=
  sd_fix (fun k x1 x2 x3 x4 x5 => F_Mo_movedIn_16B k10 k x1 x2 x3 x4 x5 I) (fun _ _ _ _ _ => none) n
noncomputable def F_Mo_movedIn_10B (k10 : Int32 → Int32 → Int32 → Int32 → Option (Int32)) (x1 : Int32) (x2 : Int32) (x3 : Int32) (x4 : Int32) (I : sm_MI) : Option (Int32) :=
  if (I 61 1) ≤ x4 then
    some (x2)
  else
    F_Mo_movedIn_16 k10 I sd_fu x1 x2 x3 x4 (0 : Int32)
noncomputable def F_Mo_movedIn_10 (I : sm_MI) (n : Nat) : Int32 → Int32 → Int32 → Int32 → Option (Int32) :=
  sd_fix (fun k x1 x2 x3 x4 => F_Mo_movedIn_10B k x1 x2 x3 x4 I) (fun _ _ _ _ => none) n
noncomputable def F_Mo_movedIn (x1 : Int32) (I : sm_MI) : Option (Int32) :=
  sd_q1 (F_Mo_areSo 86 (0 : Int32) I) fun r1 =>
  F_Mo_movedIn_10 I sd_fu x1 (-1 : Int32) r1 (0 : Int32)
theorem G_Mo_movedIn_88 {X : Nat × (Nat → Int32)} {t d D : Nat} {Q : sm_Q} {I : sm_MI} {J : sm_MJ} {k16 : Int32 → Int32 → Int32 → Int32 → Int32 → Option (Int32)} {x1 : Int32} {x2 : Int32} {x3 : Int32} {x4 : Int32} {x5 : Int32} {s0 : Int32} {rz : Int32}
    (hD : 2 ≤ D) (h : F_Mo_movedIn_88 k16 x1 x2 x3 x4 x5 s0 I = some (rz)) (hQ : Q (.inl (some (.int rz))) (I, J, sm_rf t d)) (hk16 : ∀ (x1 : Int32) (x2 : Int32) (x3 : Int32) (x4 : Int32) (x5 : Int32), k16 x1 x2 x3 x4 x5 = some (rz) → sm_W sm_sh X (sm_C sm_sh X sm_P D) me_224 Q (16, [some (.ref 61), some (.int x1), some (.int x2), some (.int x3), some (.int x4), some (.int x5), none, none], [], 0, 0) (I, J, sm_rf t d)) : sm_W sm_sh X (sm_C sm_sh X sm_P D) me_224 Q (88, [some (.ref 61), some (.int x1), some (.int x2), some (.int x3), some (.int x4), some (.int x5), none, none], [.int s0], 0, 0) (I, J, sm_rf t d) := by
  unfold F_Mo_movedIn_88 at h
  refine sm_W.run (sm_C_mono D) 4 (G := True) (fr' := (if decide (s0 = (-1 : Int32)) = true then 100 else 92, [some (.ref 61), some (.int x1), some (.int x2), some (.int x3), some (.int x4), some (.int x5), none, some (.int s0)], [], 0, 0)) (M' := (I, J, sm_rf t d)) rfl trivial (sm_W.iteD h (fun hc h => ?_) (fun hc h => ?_))
  · refine sm_W.run (sm_C_mono D) 4 (G := True) (fr' := (16, [some (.ref 61), some (.int x1), some (.int x2), some (.int x3), some (.int x4), some (.int (x5 + (1 : Int32))), none, some (.int s0)], [], 0, 0)) (M' := (I, J, sm_rf t d)) rfl trivial ?_
    exact sm_W.forget (L' := [some (.ref 61), some (.int x1), some (.int x2), some (.int x3), some (.int x4), some (.int (x5 + (1 : Int32))), none, none]) ⟨rfl, ⟨rfl, ⟨rfl, ⟨rfl, ⟨rfl, ⟨rfl, trivial⟩⟩⟩⟩⟩⟩ (hk16 _ _ _ _ _ h)
  · refine sm_W.run (sm_C_mono D) 3 (G := True) (fr' := (if decide (x2 = (-1 : Int32)) = true then 98 else 95, [some (.ref 61), some (.int x1), some (.int x2), some (.int x3), some (.int x4), some (.int x5), none, some (.int s0)], [], 0, 0)) (M' := (I, J, sm_rf t d)) rfl trivial (sm_W.iteD h (fun hc h => ?_) (fun hc h => ?_))
    · refine sm_W.run (sm_C_mono D) 5 (G := True) (fr' := (16, [some (.ref 61), some (.int x1), some (.int s0), some (.int x3), some (.int x4), some (.int (x5 + (1 : Int32))), none, some (.int s0)], [], 0, 0)) (M' := (I, J, sm_rf t d)) rfl trivial ?_
      exact sm_W.forget (L' := [some (.ref 61), some (.int x1), some (.int s0), some (.int x3), some (.int x4), some (.int (x5 + (1 : Int32))), none, none]) ⟨rfl, ⟨rfl, ⟨rfl, ⟨rfl, ⟨rfl, ⟨rfl, trivial⟩⟩⟩⟩⟩⟩ (hk16 _ _ _ _ _ h)
    · refine sm_W.run (sm_C_mono D) 3 (G := True) (fr' := (if decide (x2 ≤ s0) = true then 100 else 98, [some (.ref 61), some (.int x1), some (.int x2), some (.int x3), some (.int x4), some (.int x5), none, some (.int s0)], [], 0, 0)) (M' := (I, J, sm_rf t d)) rfl trivial (sm_W.iteD h (fun hc h => ?_) (fun hc h => ?_))
      · refine sm_W.run (sm_C_mono D) 4 (G := True) (fr' := (16, [some (.ref 61), some (.int x1), some (.int x2), some (.int x3), some (.int x4), some (.int (x5 + (1 : Int32))), none, some (.int s0)], [], 0, 0)) (M' := (I, J, sm_rf t d)) rfl trivial ?_
        exact sm_W.forget (L' := [some (.ref 61), some (.int x1), some (.int x2), some (.int x3), some (.int x4), some (.int (x5 + (1 : Int32))), none, none]) ⟨rfl, ⟨rfl, ⟨rfl, ⟨rfl, ⟨rfl, ⟨rfl, trivial⟩⟩⟩⟩⟩⟩ (hk16 _ _ _ _ _ h)
      · refine sm_W.run (sm_C_mono D) 5 (G := True) (fr' := (16, [some (.ref 61), some (.int x1), some (.int s0), some (.int x3), some (.int x4), some (.int (x5 + (1 : Int32))), none, some (.int s0)], [], 0, 0)) (M' := (I, J, sm_rf t d)) rfl trivial ?_
        exact sm_W.forget (L' := [some (.ref 61), some (.int x1), some (.int s0), some (.int x3), some (.int x4), some (.int (x5 + (1 : Int32))), none, none]) ⟨rfl, ⟨rfl, ⟨rfl, ⟨rfl, ⟨rfl, ⟨rfl, trivial⟩⟩⟩⟩⟩⟩ (hk16 _ _ _ _ _ h)
theorem G_Mo_movedIn_24B {X : Nat × (Nat → Int32)} {t d D : Nat} {Q : sm_Q} {I : sm_MI} {J : sm_MJ} {k16 : Int32 → Int32 → Int32 → Int32 → Int32 → Option (Int32)} {k24 : Int32 → Int32 → Int32 → Int32 → Int32 → Int32 → Int32 → Option (Int32)} {x1 : Int32} {x2 : Int32} {x3 : Int32} {x4 : Int32} {x5 : Int32} {x6 : Int32} {x7 : Int32} {rz : Int32}
    (hD : 2 ≤ D) (h : F_Mo_movedIn_24B k16 k24 x1 x2 x3 x4 x5 x6 x7 I = some (rz)) (hQ : Q (.inl (some (.int rz))) (I, J, sm_rf t d)) (hk16 : ∀ (x1 : Int32) (x2 : Int32) (x3 : Int32) (x4 : Int32) (x5 : Int32), k16 x1 x2 x3 x4 x5 = some (rz) → sm_W sm_sh X (sm_C sm_sh X sm_P D) me_224 Q (16, [some (.ref 61), some (.int x1), some (.int x2), some (.int x3), some (.int x4), some (.int x5), none, none], [], 0, 0) (I, J, sm_rf t d)) (hk24 : ∀ (x1 : Int32) (x2 : Int32) (x3 : Int32) (x4 : Int32) (x5 : Int32) (x6 : Int32) (x7 : Int32), k24 x1 x2 x3 x4 x5 x6 x7 = some (rz) → sm_W sm_sh X (sm_C sm_sh X sm_P D) me_224 Q (24, [some (.ref 61), some (.int x1), some (.int x2), some (.int x3), some (.int x4), some (.int x5), some (.int x6), some (.int x7)], [], 0, 0) (I, J, sm_rf t d)) : sm_W sm_sh X (sm_C sm_sh X sm_P D) me_224 Q (24, [some (.ref 61), some (.int x1), some (.int x2), some (.int x3), some (.int x4), some (.int x5), some (.int x6), some (.int x7)], [], 0, 0) (I, J, sm_rf t d) := by
  unfold F_Mo_movedIn_24B at h
  refine sm_W.run (sm_C_mono D) 4 (G := True) (fr' := (if decide ((I 61 1) ≤ x7) = true then 69 else 28, [some (.ref 61), some (.int x1), some (.int x2), some (.int x3), some (.int x4), some (.int x5), some (.int x6), some (.int x7)], [], 0, 0)) (M' := (I, J, sm_rf t d)) rfl trivial (sm_W.iteD h (fun hc h => ?_) (fun hc h => ?_))
  · obtain ⟨g1, h⟩ := sd_gu_go h
    refine sm_W.run (sm_C_mono D) 6 (G := sm_in x1 20 = true ∧ True) (fr' := (if decide ((I 67 (Int32.toNatClampNeg x1)) ≤ x6) = true then 77 else 75, [some (.ref 61), some (.int x1), some (.int x2), some (.int x3), some (.int x4), some (.int x5), some (.int x6), some (.int x7)], [], 0, 0)) (M' := (I, J, sm_rf t d)) rfl ⟨g1, trivial⟩ (sm_W.iteD h (fun hc h => ?_) (fun hc h => ?_))
    · obtain ⟨g2, h⟩ := sd_gu_go h
      obtain ⟨g3, h⟩ := sd_gu_go h
      refine sm_W.run (sm_C_mono D) 10 (G := sm_in x4 14 = true ∧ sm_in x5 14 = true ∧ True) (fr' := (87, [some (.ref 61), some (.int x1), some (.int x2), some (.int x3), some (.int x4), some (.int x5), some (.int x6), some (.int x7)], [.int (I 65 (Int32.toNatClampNeg x5)), .int (I 64 (Int32.toNatClampNeg x4)), .int x1, .ref 61], 0, 0)) (M' := (I, J, sm_rf t d)) rfl ⟨g2, g3, trivial⟩ ?_
      obtain ⟨r4, hc, h⟩ := sd_q1_go h
      refine sm_W.cal (sm_C_mono D) (y := 223) (as := [.ref 61, .int x1, .int (I 64 (Int32.toNatClampNeg x4)), .int (I 65 (Int32.toNatClampNeg x5))]) (fr' := (88, [some (.ref 61), some (.int x1), some (.int x2), some (.int x3), some (.int x4), some (.int x5), some (.int x6), some (.int x7)], [], 0, 0)) rfl (T_Mo_movedFor (by omega) hc ?_)
      show sm_W sm_sh X (sm_C sm_sh X sm_P D) me_224 Q (88, [some (.ref 61), some (.int x1), some (.int x2), some (.int x3), some (.int x4), some (.int x5), some (.int x6), some (.int x7)], [.int r4], 0, 0) (I, J, sm_rf t d)
      exact sm_W.forget (L' := [some (.ref 61), some (.int x1), some (.int x2), some (.int x3), some (.int x4), some (.int x5), none, none]) ⟨rfl, ⟨rfl, ⟨rfl, ⟨rfl, ⟨rfl, ⟨rfl, trivial⟩⟩⟩⟩⟩⟩ (G_Mo_movedIn_88 hD h hQ hk16)
    · refine sm_W.run (sm_C_mono D) 2 (G := True) (fr' := (88, [some (.ref 61), some (.int x1), some (.int x2), some (.int x3), some (.int x4), some (.int x5), some (.int x6), some (.int x7)], [.int (-1 : Int32)], 0, 0)) (M' := (I, J, sm_rf t d)) rfl trivial ?_
      exact sm_W.forget (L' := [some (.ref 61), some (.int x1), some (.int x2), some (.int x3), some (.int x4), some (.int x5), none, none]) ⟨rfl, ⟨rfl, ⟨rfl, ⟨rfl, ⟨rfl, ⟨rfl, trivial⟩⟩⟩⟩⟩⟩ (G_Mo_movedIn_88 hD h hQ hk16)
  · refine sm_W.run (sm_C_mono D) 8 (G := True) (fr' := (if decide (¬ ((x3 >>> (x7 &&& 31)) &&& (1 : Int32)) = (1 : Int32)) = true then 64 else 36, [some (.ref 61), some (.int x1), some (.int x2), some (.int x3), some (.int x4), some (.int x5), some (.int x6), some (.int x7)], [.int x6], 0, 0)) (M' := (I, J, sm_rf t d)) rfl trivial (sm_W.iteD h (fun hc h => ?_) (fun hc h => ?_))
    · refine sm_W.runL (sm_C_mono D) 3 (G := True) (e := (x6 + (0 : Int32))) (fr' := fun a5 => (67, [some (.ref 61), some (.int x1), some (.int x2), some (.int x3), some (.int x4), some (.int x5), some (.int a5), some (.int x7)], [], 0, 0)) (M' := fun _ => (I, J, sm_rf t d)) rfl h trivial (fun a5 h => ?_)
      refine sm_W.run (sm_C_mono D) 2 (G := True) (fr' := (24, [some (.ref 61), some (.int x1), some (.int x2), some (.int x3), some (.int x4), some (.int x5), some (.int a5), some (.int (x7 + (1 : Int32)))], [], 0, 0)) (M' := (I, J, sm_rf t d)) rfl trivial ?_
      exact (hk24 _ _ _ _ _ _ _ h)
    · obtain ⟨g6, h⟩ := sd_gu_go h
      obtain ⟨g7, h⟩ := sd_gu_go h
      refine sm_W.run (sm_C_mono D) 8 (G := sm_in x7 14 = true ∧ ¬ (4 : Int32) = 0 ∧ True) (fr' := (if decide (¬ (I 63 (Int32.toNatClampNeg x7)) = (sd_mod x1 (4 : Int32))) = true then 64 else 44, [some (.ref 61), some (.int x1), some (.int x2), some (.int x3), some (.int x4), some (.int x5), some (.int x6), some (.int x7)], [.int x6], 0, 0)) (M' := (I, J, sm_rf t d)) rfl ⟨g6, g7, trivial⟩ (sm_W.iteD h (fun hc h => ?_) (fun hc h => ?_))
      · refine sm_W.runL (sm_C_mono D) 3 (G := True) (e := (x6 + (0 : Int32))) (fr' := fun a8 => (67, [some (.ref 61), some (.int x1), some (.int x2), some (.int x3), some (.int x4), some (.int x5), some (.int a8), some (.int x7)], [], 0, 0)) (M' := fun _ => (I, J, sm_rf t d)) rfl h trivial (fun a8 h => ?_)
        refine sm_W.run (sm_C_mono D) 2 (G := True) (fr' := (24, [some (.ref 61), some (.int x1), some (.int x2), some (.int x3), some (.int x4), some (.int x5), some (.int a8), some (.int (x7 + (1 : Int32)))], [], 0, 0)) (M' := (I, J, sm_rf t d)) rfl trivial ?_
        exact (hk24 _ _ _ _ _ _ _ h)
      · obtain ⟨g9, h⟩ := sd_gu_go h
        obtain ⟨g10, h⟩ := sd_gu_go h
        refine sm_W.run (sm_C_mono D) 9 (G := sm_in x7 14 = true ∧ sm_in x4 14 = true ∧ True) (fr' := (if decide ((I 64 (Int32.toNatClampNeg x4)) < (I 64 (Int32.toNatClampNeg x7))) = true then 64 else 53, [some (.ref 61), some (.int x1), some (.int x2), some (.int x3), some (.int x4), some (.int x5), some (.int x6), some (.int x7)], [.int x6], 0, 0)) (M' := (I, J, sm_rf t d)) rfl ⟨g9, g10, trivial⟩ (sm_W.iteD h (fun hc h => ?_) (fun hc h => ?_))
        · refine sm_W.runL (sm_C_mono D) 3 (G := True) (e := (x6 + (0 : Int32))) (fr' := fun a11 => (67, [some (.ref 61), some (.int x1), some (.int x2), some (.int x3), some (.int x4), some (.int x5), some (.int a11), some (.int x7)], [], 0, 0)) (M' := fun _ => (I, J, sm_rf t d)) rfl h trivial (fun a11 h => ?_)
          refine sm_W.run (sm_C_mono D) 2 (G := True) (fr' := (24, [some (.ref 61), some (.int x1), some (.int x2), some (.int x3), some (.int x4), some (.int x5), some (.int a11), some (.int (x7 + (1 : Int32)))], [], 0, 0)) (M' := (I, J, sm_rf t d)) rfl trivial ?_
          exact (hk24 _ _ _ _ _ _ _ h)
        · obtain ⟨g12, h⟩ := sd_gu_go h
          obtain ⟨g13, h⟩ := sd_gu_go h
          refine sm_W.run (sm_C_mono D) 9 (G := sm_in x7 14 = true ∧ sm_in x5 14 = true ∧ True) (fr' := (if decide ((I 65 (Int32.toNatClampNeg x7)) < (I 65 (Int32.toNatClampNeg x5))) = true then 64 else 62, [some (.ref 61), some (.int x1), some (.int x2), some (.int x3), some (.int x4), some (.int x5), some (.int x6), some (.int x7)], [.int x6], 0, 0)) (M' := (I, J, sm_rf t d)) rfl ⟨g12, g13, trivial⟩ (sm_W.iteD h (fun hc h => ?_) (fun hc h => ?_))
          · refine sm_W.runL (sm_C_mono D) 3 (G := True) (e := (x6 + (0 : Int32))) (fr' := fun a14 => (67, [some (.ref 61), some (.int x1), some (.int x2), some (.int x3), some (.int x4), some (.int x5), some (.int a14), some (.int x7)], [], 0, 0)) (M' := fun _ => (I, J, sm_rf t d)) rfl h trivial (fun a14 h => ?_)
            refine sm_W.run (sm_C_mono D) 2 (G := True) (fr' := (24, [some (.ref 61), some (.int x1), some (.int x2), some (.int x3), some (.int x4), some (.int x5), some (.int a14), some (.int (x7 + (1 : Int32)))], [], 0, 0)) (M' := (I, J, sm_rf t d)) rfl trivial ?_
            exact (hk24 _ _ _ _ _ _ _ h)
          · refine sm_W.runL (sm_C_mono D) 4 (G := True) (e := (x6 + (1 : Int32))) (fr' := fun a15 => (67, [some (.ref 61), some (.int x1), some (.int x2), some (.int x3), some (.int x4), some (.int x5), some (.int a15), some (.int x7)], [], 0, 0)) (M' := fun _ => (I, J, sm_rf t d)) rfl h trivial (fun a15 h => ?_)
            refine sm_W.run (sm_C_mono D) 2 (G := True) (fr' := (24, [some (.ref 61), some (.int x1), some (.int x2), some (.int x3), some (.int x4), some (.int x5), some (.int a15), some (.int (x7 + (1 : Int32)))], [], 0, 0)) (M' := (I, J, sm_rf t d)) rfl trivial ?_
            exact (hk24 _ _ _ _ _ _ _ h)
theorem G_Mo_movedIn_24 {X : Nat × (Nat → Int32)} {t d D : Nat} {Q : sm_Q} {I : sm_MI} {J : sm_MJ} {k16 : Int32 → Int32 → Int32 → Int32 → Int32 → Option (Int32)} {rz : Int32}
    (hD : 2 ≤ D) (hQ : Q (.inl (some (.int rz))) (I, J, sm_rf t d)) (hk16 : ∀ (x1 : Int32) (x2 : Int32) (x3 : Int32) (x4 : Int32) (x5 : Int32), k16 x1 x2 x3 x4 x5 = some (rz) → sm_W sm_sh X (sm_C sm_sh X sm_P D) me_224 Q (16, [some (.ref 61), some (.int x1), some (.int x2), some (.int x3), some (.int x4), some (.int x5), none, none], [], 0, 0) (I, J, sm_rf t d)) : ∀ (n : Nat) (x1 : Int32) (x2 : Int32) (x3 : Int32) (x4 : Int32) (x5 : Int32) (x6 : Int32) (x7 : Int32), F_Mo_movedIn_24 k16 I n x1 x2 x3 x4 x5 x6 x7 = some (rz) → sm_W sm_sh X (sm_C sm_sh X sm_P D) me_224 Q (24, [some (.ref 61), some (.int x1), some (.int x2), some (.int x3), some (.int x4), some (.int x5), some (.int x6), some (.int x7)], [], 0, 0) (I, J, sm_rf t d) := by
  intro n
  induction n with
  | zero => intro x1 x2 x3 x4 x5 x6 x7 h; cases (show (none : Option (Int32)) = some (rz) from h)
  | succ n ih => intro x1 x2 x3 x4 x5 x6 x7 h; exact G_Mo_movedIn_24B hD (show F_Mo_movedIn_24B k16 (F_Mo_movedIn_24 k16 I n) x1 x2 x3 x4 x5 x6 x7 I = some (rz) from h) hQ hk16 ih
theorem G_Mo_movedIn_16B {X : Nat × (Nat → Int32)} {t d D : Nat} {Q : sm_Q} {I : sm_MI} {J : sm_MJ} {k10 : Int32 → Int32 → Int32 → Int32 → Option (Int32)} {k16 : Int32 → Int32 → Int32 → Int32 → Int32 → Option (Int32)} {x1 : Int32} {x2 : Int32} {x3 : Int32} {x4 : Int32} {x5 : Int32} {rz : Int32}
    (hD : 2 ≤ D) (h : F_Mo_movedIn_16B k10 k16 x1 x2 x3 x4 x5 I = some (rz)) (hQ : Q (.inl (some (.int rz))) (I, J, sm_rf t d)) (hk10 : ∀ (x1 : Int32) (x2 : Int32) (x3 : Int32) (x4 : Int32), k10 x1 x2 x3 x4 = some (rz) → sm_W sm_sh X (sm_C sm_sh X sm_P D) me_224 Q (10, [some (.ref 61), some (.int x1), some (.int x2), some (.int x3), some (.int x4), none, none, none], [], 0, 0) (I, J, sm_rf t d)) (hk16 : ∀ (x1 : Int32) (x2 : Int32) (x3 : Int32) (x4 : Int32) (x5 : Int32), k16 x1 x2 x3 x4 x5 = some (rz) → sm_W sm_sh X (sm_C sm_sh X sm_P D) me_224 Q (16, [some (.ref 61), some (.int x1), some (.int x2), some (.int x3), some (.int x4), some (.int x5), none, none], [], 0, 0) (I, J, sm_rf t d)) : sm_W sm_sh X (sm_C sm_sh X sm_P D) me_224 Q (16, [some (.ref 61), some (.int x1), some (.int x2), some (.int x3), some (.int x4), some (.int x5), none, none], [], 0, 0) (I, J, sm_rf t d) := by
  unfold F_Mo_movedIn_16B at h
  refine sm_W.run (sm_C_mono D) 4 (G := True) (fr' := (if decide ((I 61 1) ≤ x5) = true then 104 else 20, [some (.ref 61), some (.int x1), some (.int x2), some (.int x3), some (.int x4), some (.int x5), none, none], [], 0, 0)) (M' := (I, J, sm_rf t d)) rfl trivial (sm_W.iteD h (fun hc h => ?_) (fun hc h => ?_))
  · refine sm_W.run (sm_C_mono D) 2 (G := True) (fr' := (10, [some (.ref 61), some (.int x1), some (.int x2), some (.int x3), some (.int (x4 + (1 : Int32))), some (.int x5), none, none], [], 0, 0)) (M' := (I, J, sm_rf t d)) rfl trivial ?_
    exact sm_W.forget (L' := [some (.ref 61), some (.int x1), some (.int x2), some (.int x3), some (.int (x4 + (1 : Int32))), none, none, none]) ⟨rfl, ⟨rfl, ⟨rfl, ⟨rfl, ⟨rfl, trivial⟩⟩⟩⟩⟩ (hk10 _ _ _ _ h)
  · refine sm_W.run (sm_C_mono D) 4 (G := True) (fr' := (24, [some (.ref 61), some (.int x1), some (.int x2), some (.int x3), some (.int x4), some (.int x5), some (.int (0 : Int32)), some (.int (0 : Int32))], [], 0, 0)) (M' := (I, J, sm_rf t d)) rfl trivial ?_
    exact (G_Mo_movedIn_24 hD hQ hk16 sd_fu _ _ _ _ _ _ _ h)
theorem G_Mo_movedIn_16 {X : Nat × (Nat → Int32)} {t d D : Nat} {Q : sm_Q} {I : sm_MI} {J : sm_MJ} {k10 : Int32 → Int32 → Int32 → Int32 → Option (Int32)} {rz : Int32}
    (hD : 2 ≤ D) (hQ : Q (.inl (some (.int rz))) (I, J, sm_rf t d)) (hk10 : ∀ (x1 : Int32) (x2 : Int32) (x3 : Int32) (x4 : Int32), k10 x1 x2 x3 x4 = some (rz) → sm_W sm_sh X (sm_C sm_sh X sm_P D) me_224 Q (10, [some (.ref 61), some (.int x1), some (.int x2), some (.int x3), some (.int x4), none, none, none], [], 0, 0) (I, J, sm_rf t d)) : ∀ (n : Nat) (x1 : Int32) (x2 : Int32) (x3 : Int32) (x4 : Int32) (x5 : Int32), F_Mo_movedIn_16 k10 I n x1 x2 x3 x4 x5 = some (rz) → sm_W sm_sh X (sm_C sm_sh X sm_P D) me_224 Q (16, [some (.ref 61), some (.int x1), some (.int x2), some (.int x3), some (.int x4), some (.int x5), none, none], [], 0, 0) (I, J, sm_rf t d) := by
  intro n
  induction n with
  | zero => intro x1 x2 x3 x4 x5 h; cases (show (none : Option (Int32)) = some (rz) from h)
  | succ n ih => intro x1 x2 x3 x4 x5 h; exact G_Mo_movedIn_16B hD (show F_Mo_movedIn_16B k10 (F_Mo_movedIn_16 k10 I n) x1 x2 x3 x4 x5 I = some (rz) from h) hQ hk10 ih
theorem G_Mo_movedIn_10B {X : Nat × (Nat → Int32)} {t d D : Nat} {Q : sm_Q} {I : sm_MI} {J : sm_MJ} {k10 : Int32 → Int32 → Int32 → Int32 → Option (Int32)} {x1 : Int32} {x2 : Int32} {x3 : Int32} {x4 : Int32} {rz : Int32}
    (hD : 2 ≤ D) (h : F_Mo_movedIn_10B k10 x1 x2 x3 x4 I = some (rz)) (hQ : Q (.inl (some (.int rz))) (I, J, sm_rf t d)) (hk10 : ∀ (x1 : Int32) (x2 : Int32) (x3 : Int32) (x4 : Int32), k10 x1 x2 x3 x4 = some (rz) → sm_W sm_sh X (sm_C sm_sh X sm_P D) me_224 Q (10, [some (.ref 61), some (.int x1), some (.int x2), some (.int x3), some (.int x4), none, none, none], [], 0, 0) (I, J, sm_rf t d)) : sm_W sm_sh X (sm_C sm_sh X sm_P D) me_224 Q (10, [some (.ref 61), some (.int x1), some (.int x2), some (.int x3), some (.int x4), none, none, none], [], 0, 0) (I, J, sm_rf t d) := by
  unfold F_Mo_movedIn_10B at h
  refine sm_W.run (sm_C_mono D) 4 (G := True) (fr' := (if decide ((I 61 1) ≤ x4) = true then 106 else 14, [some (.ref 61), some (.int x1), some (.int x2), some (.int x3), some (.int x4), none, none, none], [], 0, 0)) (M' := (I, J, sm_rf t d)) rfl trivial (sm_W.iteD h (fun hc h => ?_) (fun hc h => ?_))
  · refine sm_W.run (sm_C_mono D) 1 (G := True) (fr' := (107, [some (.ref 61), some (.int x1), some (.int x2), some (.int x3), some (.int x4), none, none, none], [.int x2], 0, 0)) (M' := (I, J, sm_rf t d)) rfl trivial ?_
    cases h
    exact sm_W.ret (sm_C_mono D) rfl hQ
  · refine sm_W.run (sm_C_mono D) 2 (G := True) (fr' := (16, [some (.ref 61), some (.int x1), some (.int x2), some (.int x3), some (.int x4), some (.int (0 : Int32)), none, none], [], 0, 0)) (M' := (I, J, sm_rf t d)) rfl trivial ?_
    exact (G_Mo_movedIn_16 hD hQ hk10 sd_fu _ _ _ _ _ h)
theorem G_Mo_movedIn_10 {X : Nat × (Nat → Int32)} {t d D : Nat} {Q : sm_Q} {I : sm_MI} {J : sm_MJ} {rz : Int32}
    (hD : 2 ≤ D) (hQ : Q (.inl (some (.int rz))) (I, J, sm_rf t d))  : ∀ (n : Nat) (x1 : Int32) (x2 : Int32) (x3 : Int32) (x4 : Int32), F_Mo_movedIn_10 I n x1 x2 x3 x4 = some (rz) → sm_W sm_sh X (sm_C sm_sh X sm_P D) me_224 Q (10, [some (.ref 61), some (.int x1), some (.int x2), some (.int x3), some (.int x4), none, none, none], [], 0, 0) (I, J, sm_rf t d) := by
  intro n
  induction n with
  | zero => intro x1 x2 x3 x4 h; cases (show (none : Option (Int32)) = some (rz) from h)
  | succ n ih => intro x1 x2 x3 x4 h; exact G_Mo_movedIn_10B hD (show F_Mo_movedIn_10B (F_Mo_movedIn_10 I n) x1 x2 x3 x4 I = some (rz) from h) hQ  ih
theorem G_Mo_movedIn {X : Nat × (Nat → Int32)} {t d D : Nat} {Q : sm_Q} {I : sm_MI} {J : sm_MJ} {x1 : Int32} {rz : Int32}
    (hD : 2 ≤ D) (h : F_Mo_movedIn x1 I = some (rz)) (hQ : Q (.inl (some (.int rz))) (I, J, sm_rf t d))  : sm_W sm_sh X (sm_C sm_sh X sm_P D) me_224 Q (0, [some (.ref 61), some (.int x1), none, none, none, none, none, none], [], 0, 0) (I, J, sm_rf t d) := by
  unfold F_Mo_movedIn at h
  refine sm_W.run (sm_C_mono D) 6 (G := True) (fr' := (6, [some (.ref 61), some (.int x1), some (.int (-1 : Int32)), none, none, none, none, none], [.int (0 : Int32), .ref 86, .ref 61], 0, 0)) (M' := (I, J, sm_rf t d)) rfl trivial ?_
  obtain ⟨r1, hc, h⟩ := sd_q1_go h
  refine sm_W.cal (sm_C_mono D) (y := 196) (as := [.ref 61, .ref 86, .int (0 : Int32)]) (fr' := (7, [some (.ref 61), some (.int x1), some (.int (-1 : Int32)), none, none, none, none, none], [], 0, 0)) rfl (T_Mo_areSo (by omega) (by decide) hc ?_)
  show sm_W sm_sh X (sm_C sm_sh X sm_P D) me_224 Q (7, [some (.ref 61), some (.int x1), some (.int (-1 : Int32)), none, none, none, none, none], [.int r1], 0, 0) (I, J, sm_rf t d)
  refine sm_W.run (sm_C_mono D) 3 (G := True) (fr' := (10, [some (.ref 61), some (.int x1), some (.int (-1 : Int32)), some (.int r1), some (.int (0 : Int32)), none, none, none], [], 0, 0)) (M' := (I, J, sm_rf t d)) rfl trivial ?_
  exact (G_Mo_movedIn_10 hD hQ sd_fu _ _ _ _ h)
theorem T_Mo_movedIn {X : Nat × (Nat → Int32)} {t d D : Nat} {Q : sm_Q} {I : sm_MI} {J : sm_MJ} {x1 : Int32} {rz : Int32}
    (hD : 3 ≤ D) (h : F_Mo_movedIn x1 I = some (rz)) (hQ : Q (.inl (some (.int rz))) (I, J, sm_rf t d)) : sm_C sm_sh X sm_P D 224 [.ref 61, .int x1] (I, J, sm_rf t d) Q := by
  cases D with
  | zero => omega
  | succ D => exact sm_C.of (me := me_224) (L := [some (.ref 61), some (.int x1), none, none, none, none, none, none]) rfl rfl rfl (sm_W.forget (L' := [some (.ref 61), some (.int x1), none, none, none, none, none, none]) ⟨rfl, ⟨rfl, trivial⟩⟩ (G_Mo_movedIn (by omega) h hQ))
-- 225 Mo_moved
noncomputable def F_Mo_moved_38 (k21 : Int32 → Int32 → Int32 → sm_MI → Option (Int32 × sm_MI)) (x1 : Int32) (x2 : Int32) (x3 : Int32) (s0 : Int32) (I : sm_MI) : Option (Int32 × sm_MI) :=
  if ¬ s0 = (-1 : Int32) then
    sd_lt (x2 + s0) fun a1 =>
    k21 x1 a1 (x3 + (1 : Int32)) I
  else
    some ((-1 : Int32), I)
noncomputable def F_Mo_moved_21B (k21 : Int32 → Int32 → Int32 → sm_MI → Option (Int32 × sm_MI)) (x1 : Int32) (x2 : Int32) (x3 : Int32) (I : sm_MI) : Option (Int32 × sm_MI) :=
  if (((4 : Int32) * x1) + (4 : Int32)) ≤ x3 then
    some (x2, I)
  else
    sd_gu (sm_in x3 20 = true) <|
    if ¬ (I 67 (Int32.toNatClampNeg x3)) = 0 then
      sd_q1 (F_Mo_movedIn x3 I) fun r2 =>
      F_Mo_moved_38 k21 x1 x2 x3 r2 I
    else
      F_Mo_moved_38 k21 x1 x2 x3 (0 : Int32) I
noncomputable def F_Mo_moved_21  (n : Nat) : Int32 → Int32 → Int32 → sm_MI → Option (Int32 × sm_MI) :=
  sd_fix (fun k x1 x2 x3 I => F_Mo_moved_21B k x1 x2 x3 I) (fun _ _ _ _ => none) n
noncomputable def F_Mo_moved (x1 : Int32) (I : sm_MI) : Option (Int32 × sm_MI) :=
  sd_lt (sd_up I 61 0 (0 : Int32)) fun I1 =>
  sd_q2 (F_Mo_isPiece x1 I1) fun r2 I3 =>
  if ¬ r2 = 0 then
    sd_q1 (F_Mo_hasRows x1 I3) fun r4 =>
    if ¬ r4 = 0 then
      sd_lt ((4 : Int32) * x1) fun a5 =>
      F_Mo_moved_21 sd_fu x1 (0 : Int32) a5 I3
    else
      some ((-1 : Int32), I3)
  else
    some ((0 : Int32), I3)
theorem G_Mo_moved_38 {X : Nat × (Nat → Int32)} {t d D : Nat} {Q : sm_Q} {I : sm_MI} {J : sm_MJ} {k21 : Int32 → Int32 → Int32 → sm_MI → Option (Int32 × sm_MI)} {x1 : Int32} {x2 : Int32} {x3 : Int32} {s0 : Int32} {rz : Int32} {Iz : sm_MI}
    (hD : 3 ≤ D) (h : F_Mo_moved_38 k21 x1 x2 x3 s0 I = some (rz, Iz)) (hQ : Q (.inl (some (.int rz))) (Iz, J, sm_rf t d)) (hk21 : ∀ (x1 : Int32) (x2 : Int32) (x3 : Int32) (I : sm_MI), k21 x1 x2 x3 I = some (rz, Iz) → sm_W sm_sh X (sm_C sm_sh X sm_P D) me_225 Q (21, [some (.ref 61), some (.int x1), some (.int x2), some (.int x3), none], [], 0, 0) (I, J, sm_rf t d)) : sm_W sm_sh X (sm_C sm_sh X sm_P D) me_225 Q (38, [some (.ref 61), some (.int x1), some (.int x2), some (.int x3), none], [.int s0], 0, 0) (I, J, sm_rf t d) := by
  unfold F_Mo_moved_38 at h
  refine sm_W.run (sm_C_mono D) 4 (G := True) (fr' := (if decide (¬ s0 = (-1 : Int32)) = true then 44 else 42, [some (.ref 61), some (.int x1), some (.int x2), some (.int x3), some (.int s0)], [], 0, 0)) (M' := (I, J, sm_rf t d)) rfl trivial (sm_W.iteD h (fun hc h => ?_) (fun hc h => ?_))
  · refine sm_W.runL (sm_C_mono D) 4 (G := True) (e := (x2 + s0)) (fr' := fun a1 => (48, [some (.ref 61), some (.int x1), some (.int a1), some (.int x3), some (.int s0)], [], 0, 0)) (M' := fun _ => (I, J, sm_rf t d)) rfl h trivial (fun a1 h => ?_)
    refine sm_W.run (sm_C_mono D) 2 (G := True) (fr' := (21, [some (.ref 61), some (.int x1), some (.int a1), some (.int (x3 + (1 : Int32))), some (.int s0)], [], 0, 0)) (M' := (I, J, sm_rf t d)) rfl trivial ?_
    exact sm_W.forget (L' := [some (.ref 61), some (.int x1), some (.int a1), some (.int (x3 + (1 : Int32))), none]) ⟨rfl, ⟨rfl, ⟨rfl, ⟨rfl, trivial⟩⟩⟩⟩ (hk21 _ _ _ _ h)
  · refine sm_W.run (sm_C_mono D) 1 (G := True) (fr' := (43, [some (.ref 61), some (.int x1), some (.int x2), some (.int x3), some (.int s0)], [.int (-1 : Int32)], 0, 0)) (M' := (I, J, sm_rf t d)) rfl trivial ?_
    cases h
    exact sm_W.ret (sm_C_mono D) rfl hQ
theorem G_Mo_moved_21B {X : Nat × (Nat → Int32)} {t d D : Nat} {Q : sm_Q} {I : sm_MI} {J : sm_MJ} {k21 : Int32 → Int32 → Int32 → sm_MI → Option (Int32 × sm_MI)} {x1 : Int32} {x2 : Int32} {x3 : Int32} {rz : Int32} {Iz : sm_MI}
    (hD : 3 ≤ D) (h : F_Mo_moved_21B k21 x1 x2 x3 I = some (rz, Iz)) (hQ : Q (.inl (some (.int rz))) (Iz, J, sm_rf t d)) (hk21 : ∀ (x1 : Int32) (x2 : Int32) (x3 : Int32) (I : sm_MI), k21 x1 x2 x3 I = some (rz, Iz) → sm_W sm_sh X (sm_C sm_sh X sm_P D) me_225 Q (21, [some (.ref 61), some (.int x1), some (.int x2), some (.int x3), none], [], 0, 0) (I, J, sm_rf t d)) : sm_W sm_sh X (sm_C sm_sh X sm_P D) me_225 Q (21, [some (.ref 61), some (.int x1), some (.int x2), some (.int x3), none], [], 0, 0) (I, J, sm_rf t d) := by
  unfold F_Mo_moved_21B at h
  refine sm_W.run (sm_C_mono D) 7 (G := True) (fr' := (if decide ((((4 : Int32) * x1) + (4 : Int32)) ≤ x3) = true then 50 else 28, [some (.ref 61), some (.int x1), some (.int x2), some (.int x3), none], [], 0, 0)) (M' := (I, J, sm_rf t d)) rfl trivial (sm_W.iteD h (fun hc h => ?_) (fun hc h => ?_))
  · refine sm_W.run (sm_C_mono D) 1 (G := True) (fr' := (51, [some (.ref 61), some (.int x1), some (.int x2), some (.int x3), none], [.int x2], 0, 0)) (M' := (I, J, sm_rf t d)) rfl trivial ?_
    cases h
    exact sm_W.ret (sm_C_mono D) rfl hQ
  · obtain ⟨g1, h⟩ := sd_gu_go h
    refine sm_W.run (sm_C_mono D) 5 (G := sm_in x3 20 = true ∧ True) (fr' := (if decide (¬ (I 67 (Int32.toNatClampNeg x3)) = 0) = true then 35 else 33, [some (.ref 61), some (.int x1), some (.int x2), some (.int x3), none], [], 0, 0)) (M' := (I, J, sm_rf t d)) rfl ⟨g1, trivial⟩ (sm_W.iteD h (fun hc h => ?_) (fun hc h => ?_))
    · refine sm_W.run (sm_C_mono D) 2 (G := True) (fr' := (37, [some (.ref 61), some (.int x1), some (.int x2), some (.int x3), none], [.int x3, .ref 61], 0, 0)) (M' := (I, J, sm_rf t d)) rfl trivial ?_
      obtain ⟨r2, hc, h⟩ := sd_q1_go h
      refine sm_W.cal (sm_C_mono D) (y := 224) (as := [.ref 61, .int x3]) (fr' := (38, [some (.ref 61), some (.int x1), some (.int x2), some (.int x3), none], [], 0, 0)) rfl (T_Mo_movedIn (by omega) hc ?_)
      show sm_W sm_sh X (sm_C sm_sh X sm_P D) me_225 Q (38, [some (.ref 61), some (.int x1), some (.int x2), some (.int x3), none], [.int r2], 0, 0) (I, J, sm_rf t d)
      exact (G_Mo_moved_38 hD h hQ hk21)
    · refine sm_W.run (sm_C_mono D) 2 (G := True) (fr' := (38, [some (.ref 61), some (.int x1), some (.int x2), some (.int x3), none], [.int (0 : Int32)], 0, 0)) (M' := (I, J, sm_rf t d)) rfl trivial ?_
      exact (G_Mo_moved_38 hD h hQ hk21)
theorem G_Mo_moved_21 {X : Nat × (Nat → Int32)} {t d D : Nat} {Q : sm_Q} {J : sm_MJ} {rz : Int32} {Iz : sm_MI}
    (hD : 3 ≤ D) (hQ : Q (.inl (some (.int rz))) (Iz, J, sm_rf t d))  : ∀ (n : Nat) (x1 : Int32) (x2 : Int32) (x3 : Int32) (I : sm_MI), F_Mo_moved_21 n x1 x2 x3 I = some (rz, Iz) → sm_W sm_sh X (sm_C sm_sh X sm_P D) me_225 Q (21, [some (.ref 61), some (.int x1), some (.int x2), some (.int x3), none], [], 0, 0) (I, J, sm_rf t d) := by
  intro n
  induction n with
  | zero => intro x1 x2 x3 I h; cases (show (none : Option (Int32 × sm_MI)) = some (rz, Iz) from h)
  | succ n ih => intro x1 x2 x3 I h; exact G_Mo_moved_21B hD (show F_Mo_moved_21B (F_Mo_moved_21 n) x1 x2 x3 I = some (rz, Iz) from h) hQ  ih
theorem G_Mo_moved {X : Nat × (Nat → Int32)} {t d D : Nat} {Q : sm_Q} {I : sm_MI} {J : sm_MJ} {x1 : Int32} {rz : Int32} {Iz : sm_MI}
    (hD : 3 ≤ D) (h : F_Mo_moved x1 I = some (rz, Iz)) (hQ : Q (.inl (some (.int rz))) (Iz, J, sm_rf t d))  : sm_W sm_sh X (sm_C sm_sh X sm_P D) me_225 Q (0, [some (.ref 61), some (.int x1), none, none, none], [], 0, 0) (I, J, sm_rf t d) := by
  unfold F_Mo_moved at h
  refine sm_W.runL (sm_C_mono D) 3 (G := True) (e := (sd_up I 61 0 (0 : Int32))) (fr' := fun _ => (3, [some (.ref 61), some (.int x1), none, none, none], [], 0, 0)) (M' := fun I1 => (I1, J, sm_rf t d)) rfl h trivial (fun I1 h => ?_)
  refine sm_W.run (sm_C_mono D) 2 (G := True) (fr' := (5, [some (.ref 61), some (.int x1), none, none, none], [.int x1, .ref 61], 0, 0)) (M' := (I1, J, sm_rf t d)) rfl trivial ?_
  obtain ⟨r2, I3, hc, h⟩ := sd_q2_go h
  refine sm_W.cal (sm_C_mono D) (y := 205) (as := [.ref 61, .int x1]) (fr' := (6, [some (.ref 61), some (.int x1), none, none, none], [], 0, 0)) rfl (T_Mo_isPiece (by omega) hc ?_)
  show sm_W sm_sh X (sm_C sm_sh X sm_P D) me_225 Q (6, [some (.ref 61), some (.int x1), none, none, none], [.int r2], 0, 0) (I3, J, sm_rf t d)
  refine sm_W.run (sm_C_mono D) 1 (G := True) (fr' := (if decide (¬ r2 = 0) = true then 9 else 7, [some (.ref 61), some (.int x1), none, none, none], [], 0, 0)) (M' := (I3, J, sm_rf t d)) rfl trivial (sm_W.iteD h (fun hc h => ?_) (fun hc h => ?_))
  · refine sm_W.run (sm_C_mono D) 2 (G := True) (fr' := (11, [some (.ref 61), some (.int x1), none, none, none], [.int x1, .ref 61], 0, 0)) (M' := (I3, J, sm_rf t d)) rfl trivial ?_
    obtain ⟨r4, hc, h⟩ := sd_q1_go h
    refine sm_W.cal (sm_C_mono D) (y := 200) (as := [.ref 61, .int x1]) (fr' := (12, [some (.ref 61), some (.int x1), none, none, none], [], 0, 0)) rfl (T_Mo_hasRows (by omega) hc ?_)
    show sm_W sm_sh X (sm_C sm_sh X sm_P D) me_225 Q (12, [some (.ref 61), some (.int x1), none, none, none], [.int r4], 0, 0) (I3, J, sm_rf t d)
    refine sm_W.run (sm_C_mono D) 1 (G := True) (fr' := (if decide (¬ r4 = 0) = true then 15 else 13, [some (.ref 61), some (.int x1), none, none, none], [], 0, 0)) (M' := (I3, J, sm_rf t d)) rfl trivial (sm_W.iteD h (fun hc h => ?_) (fun hc h => ?_))
    · refine sm_W.runL (sm_C_mono D) 6 (G := True) (e := ((4 : Int32) * x1)) (fr' := fun a5 => (21, [some (.ref 61), some (.int x1), some (.int (0 : Int32)), some (.int a5), none], [], 0, 0)) (M' := fun _ => (I3, J, sm_rf t d)) rfl h trivial (fun a5 h => ?_)
      exact (G_Mo_moved_21 hD hQ sd_fu _ _ _ _ h)
    · refine sm_W.run (sm_C_mono D) 1 (G := True) (fr' := (14, [some (.ref 61), some (.int x1), none, none, none], [.int (-1 : Int32)], 0, 0)) (M' := (I3, J, sm_rf t d)) rfl trivial ?_
      cases h
      exact sm_W.ret (sm_C_mono D) rfl hQ
  · refine sm_W.run (sm_C_mono D) 1 (G := True) (fr' := (8, [some (.ref 61), some (.int x1), none, none, none], [.int (0 : Int32)], 0, 0)) (M' := (I3, J, sm_rf t d)) rfl trivial ?_
    cases h
    exact sm_W.ret (sm_C_mono D) rfl hQ
theorem T_Mo_moved {X : Nat × (Nat → Int32)} {t d D : Nat} {Q : sm_Q} {I : sm_MI} {J : sm_MJ} {x1 : Int32} {rz : Int32} {Iz : sm_MI}
    (hD : 4 ≤ D) (h : F_Mo_moved x1 I = some (rz, Iz)) (hQ : Q (.inl (some (.int rz))) (Iz, J, sm_rf t d)) : sm_C sm_sh X sm_P D 225 [.ref 61, .int x1] (I, J, sm_rf t d) Q := by
  cases D with
  | zero => omega
  | succ D => exact sm_C.of (me := me_225) (L := [some (.ref 61), some (.int x1), none, none, none]) rfl rfl rfl (sm_W.forget (L' := [some (.ref 61), some (.int x1), none, none, none]) ⟨rfl, ⟨rfl, trivial⟩⟩ (G_Mo_moved (by omega) h hQ))
-- 226 Mo_spare
noncomputable def F_Mo_spare_54 (k29 : Int32 → Int32 → Int32 → Int32 → sm_MI → Option (Int32 × sm_MI)) (x1 : Int32) (x2 : Int32) (x3 : Int32) (x4 : Int32) (s0 : Int32) (I : sm_MI) : Option (Int32 × sm_MI) :=
  if x3 ≤ s0 then
    k29 x1 x2 x3 (x4 + (1 : Int32)) I
  else
    k29 x1 x2 s0 (x4 + (1 : Int32)) I
noncomputable def F_Mo_spare_29B (k29 : Int32 → Int32 → Int32 → Int32 → sm_MI → Option (Int32 × sm_MI)) (x1 : Int32) (x2 : Int32) (x3 : Int32) (x4 : Int32) (I : sm_MI) : Option (Int32 × sm_MI) :=
  if (((4 : Int32) * x1) + (4 : Int32)) ≤ x4 then
    some (x3, I)
  else
    sd_gu (sm_in x4 20 = true) <|
    if ¬ (I 67 (Int32.toNatClampNeg x4)) = 0 then
      sd_q1 (F_Mo_ableOf x2 x4 (0 : Int32) I) fun r2 =>
      sd_q1 (F_Mo_bits r2) fun r3 =>
      sd_gu (sm_in x4 20 = true) <|
      F_Mo_spare_54 k29 x1 x2 x3 x4 (r3 - (I 67 (Int32.toNatClampNeg x4))) I
    else
      F_Mo_spare_54 k29 x1 x2 x3 x4 (99 : Int32) I
noncomputable def F_Mo_spare_29  (n : Nat) : Int32 → Int32 → Int32 → Int32 → sm_MI → Option (Int32 × sm_MI) :=
  sd_fix (fun k x1 x2 x3 x4 I => F_Mo_spare_29B k x1 x2 x3 x4 I) (fun _ _ _ _ _ => none) n
noncomputable def F_Mo_spare (x1 : Int32) (I : sm_MI) : Option (Int32 × sm_MI) :=
  sd_lt (sd_up I 61 0 (0 : Int32)) fun I1 =>
  sd_q2 (F_Mo_isPiece x1 I1) fun r2 I3 =>
  if ¬ r2 = 0 then
    sd_q1 (F_Mo_areSo 86 (0 : Int32) I3) fun r4 =>
    sd_q1 (F_Mo_canBeSung r4 x1 (0 : Int32) I3) fun r5 =>
    if ¬ r5 = 0 then
      sd_lt ((4 : Int32) * x1) fun a6 =>
      F_Mo_spare_29 sd_fu x1 r4 (99 : Int32) a6 I3
    else
      some ((-1 : Int32), I3)
  else
    some ((0 : Int32), I3)
theorem G_Mo_spare_54 {X : Nat × (Nat → Int32)} {t d D : Nat} {Q : sm_Q} {I : sm_MI} {J : sm_MJ} {k29 : Int32 → Int32 → Int32 → Int32 → sm_MI → Option (Int32 × sm_MI)} {x1 : Int32} {x2 : Int32} {x3 : Int32} {x4 : Int32} {s0 : Int32} {rz : Int32} {Iz : sm_MI}
    (hD : 4 ≤ D) (h : F_Mo_spare_54 k29 x1 x2 x3 x4 s0 I = some (rz, Iz)) (hQ : Q (.inl (some (.int rz))) (Iz, J, sm_rf t d)) (hk29 : ∀ (x1 : Int32) (x2 : Int32) (x3 : Int32) (x4 : Int32) (I : sm_MI), k29 x1 x2 x3 x4 I = some (rz, Iz) → sm_W sm_sh X (sm_C sm_sh X sm_P D) me_226 Q (29, [some (.ref 61), some (.int x1), some (.int x2), some (.int x3), some (.int x4), none], [], 0, 0) (I, J, sm_rf t d)) : sm_W sm_sh X (sm_C sm_sh X sm_P D) me_226 Q (54, [some (.ref 61), some (.int x1), some (.int x2), some (.int x3), some (.int x4), none], [.int s0], 0, 0) (I, J, sm_rf t d) := by
  unfold F_Mo_spare_54 at h
  refine sm_W.run (sm_C_mono D) 4 (G := True) (fr' := (if decide (x3 ≤ s0) = true then 60 else 58, [some (.ref 61), some (.int x1), some (.int x2), some (.int x3), some (.int x4), some (.int s0)], [], 0, 0)) (M' := (I, J, sm_rf t d)) rfl trivial (sm_W.iteD h (fun hc h => ?_) (fun hc h => ?_))
  · refine sm_W.run (sm_C_mono D) 4 (G := True) (fr' := (29, [some (.ref 61), some (.int x1), some (.int x2), some (.int x3), some (.int (x4 + (1 : Int32))), some (.int s0)], [], 0, 0)) (M' := (I, J, sm_rf t d)) rfl trivial ?_
    exact sm_W.forget (L' := [some (.ref 61), some (.int x1), some (.int x2), some (.int x3), some (.int (x4 + (1 : Int32))), none]) ⟨rfl, ⟨rfl, ⟨rfl, ⟨rfl, ⟨rfl, trivial⟩⟩⟩⟩⟩ (hk29 _ _ _ _ _ h)
  · refine sm_W.run (sm_C_mono D) 5 (G := True) (fr' := (29, [some (.ref 61), some (.int x1), some (.int x2), some (.int s0), some (.int (x4 + (1 : Int32))), some (.int s0)], [], 0, 0)) (M' := (I, J, sm_rf t d)) rfl trivial ?_
    exact sm_W.forget (L' := [some (.ref 61), some (.int x1), some (.int x2), some (.int s0), some (.int (x4 + (1 : Int32))), none]) ⟨rfl, ⟨rfl, ⟨rfl, ⟨rfl, ⟨rfl, trivial⟩⟩⟩⟩⟩ (hk29 _ _ _ _ _ h)
theorem G_Mo_spare_29B {X : Nat × (Nat → Int32)} {t d D : Nat} {Q : sm_Q} {I : sm_MI} {J : sm_MJ} {k29 : Int32 → Int32 → Int32 → Int32 → sm_MI → Option (Int32 × sm_MI)} {x1 : Int32} {x2 : Int32} {x3 : Int32} {x4 : Int32} {rz : Int32} {Iz : sm_MI}
    (hD : 4 ≤ D) (h : F_Mo_spare_29B k29 x1 x2 x3 x4 I = some (rz, Iz)) (hQ : Q (.inl (some (.int rz))) (Iz, J, sm_rf t d)) (hk29 : ∀ (x1 : Int32) (x2 : Int32) (x3 : Int32) (x4 : Int32) (I : sm_MI), k29 x1 x2 x3 x4 I = some (rz, Iz) → sm_W sm_sh X (sm_C sm_sh X sm_P D) me_226 Q (29, [some (.ref 61), some (.int x1), some (.int x2), some (.int x3), some (.int x4), none], [], 0, 0) (I, J, sm_rf t d)) : sm_W sm_sh X (sm_C sm_sh X sm_P D) me_226 Q (29, [some (.ref 61), some (.int x1), some (.int x2), some (.int x3), some (.int x4), none], [], 0, 0) (I, J, sm_rf t d) := by
  unfold F_Mo_spare_29B at h
  refine sm_W.run (sm_C_mono D) 7 (G := True) (fr' := (if decide ((((4 : Int32) * x1) + (4 : Int32)) ≤ x4) = true then 64 else 36, [some (.ref 61), some (.int x1), some (.int x2), some (.int x3), some (.int x4), none], [], 0, 0)) (M' := (I, J, sm_rf t d)) rfl trivial (sm_W.iteD h (fun hc h => ?_) (fun hc h => ?_))
  · refine sm_W.run (sm_C_mono D) 1 (G := True) (fr' := (65, [some (.ref 61), some (.int x1), some (.int x2), some (.int x3), some (.int x4), none], [.int x3], 0, 0)) (M' := (I, J, sm_rf t d)) rfl trivial ?_
    cases h
    exact sm_W.ret (sm_C_mono D) rfl hQ
  · obtain ⟨g1, h⟩ := sd_gu_go h
    refine sm_W.run (sm_C_mono D) 5 (G := sm_in x4 20 = true ∧ True) (fr' := (if decide (¬ (I 67 (Int32.toNatClampNeg x4)) = 0) = true then 43 else 41, [some (.ref 61), some (.int x1), some (.int x2), some (.int x3), some (.int x4), none], [], 0, 0)) (M' := (I, J, sm_rf t d)) rfl ⟨g1, trivial⟩ (sm_W.iteD h (fun hc h => ?_) (fun hc h => ?_))
    · refine sm_W.run (sm_C_mono D) 4 (G := True) (fr' := (47, [some (.ref 61), some (.int x1), some (.int x2), some (.int x3), some (.int x4), none], [.int (0 : Int32), .int x4, .int x2, .ref 61], 0, 0)) (M' := (I, J, sm_rf t d)) rfl trivial ?_
      obtain ⟨r2, hc, h⟩ := sd_q1_go h
      refine sm_W.cal (sm_C_mono D) (y := 199) (as := [.ref 61, .int x2, .int x4, .int (0 : Int32)]) (fr' := (48, [some (.ref 61), some (.int x1), some (.int x2), some (.int x3), some (.int x4), none], [], 0, 0)) rfl (T_Mo_ableOf (by omega) hc ?_)
      show sm_W sm_sh X (sm_C sm_sh X sm_P D) me_226 Q (48, [some (.ref 61), some (.int x1), some (.int x2), some (.int x3), some (.int x4), none], [.int r2], 0, 0) (I, J, sm_rf t d)
      obtain ⟨r3, hc, h⟩ := sd_q1_go h
      refine sm_W.cal (sm_C_mono D) (y := 161) (as := [.int r2]) (fr' := (49, [some (.ref 61), some (.int x1), some (.int x2), some (.int x3), some (.int x4), none], [], 0, 0)) rfl (T_Mo_bits (by omega) hc ?_)
      show sm_W sm_sh X (sm_C sm_sh X sm_P D) me_226 Q (49, [some (.ref 61), some (.int x1), some (.int x2), some (.int x3), some (.int x4), none], [.int r3], 0, 0) (I, J, sm_rf t d)
      obtain ⟨g4, h⟩ := sd_gu_go h
      refine sm_W.run (sm_C_mono D) 5 (G := sm_in x4 20 = true ∧ True) (fr' := (54, [some (.ref 61), some (.int x1), some (.int x2), some (.int x3), some (.int x4), none], [.int (r3 - (I 67 (Int32.toNatClampNeg x4)))], 0, 0)) (M' := (I, J, sm_rf t d)) rfl ⟨g4, trivial⟩ ?_
      exact (G_Mo_spare_54 hD h hQ hk29)
    · refine sm_W.run (sm_C_mono D) 2 (G := True) (fr' := (54, [some (.ref 61), some (.int x1), some (.int x2), some (.int x3), some (.int x4), none], [.int (99 : Int32)], 0, 0)) (M' := (I, J, sm_rf t d)) rfl trivial ?_
      exact (G_Mo_spare_54 hD h hQ hk29)
theorem G_Mo_spare_29 {X : Nat × (Nat → Int32)} {t d D : Nat} {Q : sm_Q} {J : sm_MJ} {rz : Int32} {Iz : sm_MI}
    (hD : 4 ≤ D) (hQ : Q (.inl (some (.int rz))) (Iz, J, sm_rf t d))  : ∀ (n : Nat) (x1 : Int32) (x2 : Int32) (x3 : Int32) (x4 : Int32) (I : sm_MI), F_Mo_spare_29 n x1 x2 x3 x4 I = some (rz, Iz) → sm_W sm_sh X (sm_C sm_sh X sm_P D) me_226 Q (29, [some (.ref 61), some (.int x1), some (.int x2), some (.int x3), some (.int x4), none], [], 0, 0) (I, J, sm_rf t d) := by
  intro n
  induction n with
  | zero => intro x1 x2 x3 x4 I h; cases (show (none : Option (Int32 × sm_MI)) = some (rz, Iz) from h)
  | succ n ih => intro x1 x2 x3 x4 I h; exact G_Mo_spare_29B hD (show F_Mo_spare_29B (F_Mo_spare_29 n) x1 x2 x3 x4 I = some (rz, Iz) from h) hQ  ih
theorem G_Mo_spare {X : Nat × (Nat → Int32)} {t d D : Nat} {Q : sm_Q} {I : sm_MI} {J : sm_MJ} {x1 : Int32} {rz : Int32} {Iz : sm_MI}
    (hD : 4 ≤ D) (h : F_Mo_spare x1 I = some (rz, Iz)) (hQ : Q (.inl (some (.int rz))) (Iz, J, sm_rf t d))  : sm_W sm_sh X (sm_C sm_sh X sm_P D) me_226 Q (0, [some (.ref 61), some (.int x1), none, none, none, none], [], 0, 0) (I, J, sm_rf t d) := by
  unfold F_Mo_spare at h
  refine sm_W.runL (sm_C_mono D) 3 (G := True) (e := (sd_up I 61 0 (0 : Int32))) (fr' := fun _ => (3, [some (.ref 61), some (.int x1), none, none, none, none], [], 0, 0)) (M' := fun I1 => (I1, J, sm_rf t d)) rfl h trivial (fun I1 h => ?_)
  refine sm_W.run (sm_C_mono D) 2 (G := True) (fr' := (5, [some (.ref 61), some (.int x1), none, none, none, none], [.int x1, .ref 61], 0, 0)) (M' := (I1, J, sm_rf t d)) rfl trivial ?_
  obtain ⟨r2, I3, hc, h⟩ := sd_q2_go h
  refine sm_W.cal (sm_C_mono D) (y := 205) (as := [.ref 61, .int x1]) (fr' := (6, [some (.ref 61), some (.int x1), none, none, none, none], [], 0, 0)) rfl (T_Mo_isPiece (by omega) hc ?_)
  show sm_W sm_sh X (sm_C sm_sh X sm_P D) me_226 Q (6, [some (.ref 61), some (.int x1), none, none, none, none], [.int r2], 0, 0) (I3, J, sm_rf t d)
  refine sm_W.run (sm_C_mono D) 1 (G := True) (fr' := (if decide (¬ r2 = 0) = true then 9 else 7, [some (.ref 61), some (.int x1), none, none, none, none], [], 0, 0)) (M' := (I3, J, sm_rf t d)) rfl trivial (sm_W.iteD h (fun hc h => ?_) (fun hc h => ?_))
  · refine sm_W.run (sm_C_mono D) 4 (G := True) (fr' := (13, [some (.ref 61), some (.int x1), none, none, none, none], [.int (0 : Int32), .ref 86, .ref 61], 0, 0)) (M' := (I3, J, sm_rf t d)) rfl trivial ?_
    obtain ⟨r4, hc, h⟩ := sd_q1_go h
    refine sm_W.cal (sm_C_mono D) (y := 196) (as := [.ref 61, .ref 86, .int (0 : Int32)]) (fr' := (14, [some (.ref 61), some (.int x1), none, none, none, none], [], 0, 0)) rfl (T_Mo_areSo (by omega) (by decide) hc ?_)
    show sm_W sm_sh X (sm_C sm_sh X sm_P D) me_226 Q (14, [some (.ref 61), some (.int x1), none, none, none, none], [.int r4], 0, 0) (I3, J, sm_rf t d)
    refine sm_W.run (sm_C_mono D) 5 (G := True) (fr' := (19, [some (.ref 61), some (.int x1), some (.int r4), none, none, none], [.int (0 : Int32), .int x1, .int r4, .ref 61], 0, 0)) (M' := (I3, J, sm_rf t d)) rfl trivial ?_
    obtain ⟨r5, hc, h⟩ := sd_q1_go h
    refine sm_W.cal (sm_C_mono D) (y := 201) (as := [.ref 61, .int r4, .int x1, .int (0 : Int32)]) (fr' := (20, [some (.ref 61), some (.int x1), some (.int r4), none, none, none], [], 0, 0)) rfl (T_Mo_canBeSung (by omega) hc ?_)
    show sm_W sm_sh X (sm_C sm_sh X sm_P D) me_226 Q (20, [some (.ref 61), some (.int x1), some (.int r4), none, none, none], [.int r5], 0, 0) (I3, J, sm_rf t d)
    refine sm_W.run (sm_C_mono D) 1 (G := True) (fr' := (if decide (¬ r5 = 0) = true then 23 else 21, [some (.ref 61), some (.int x1), some (.int r4), none, none, none], [], 0, 0)) (M' := (I3, J, sm_rf t d)) rfl trivial (sm_W.iteD h (fun hc h => ?_) (fun hc h => ?_))
    · refine sm_W.runL (sm_C_mono D) 6 (G := True) (e := ((4 : Int32) * x1)) (fr' := fun a6 => (29, [some (.ref 61), some (.int x1), some (.int r4), some (.int (99 : Int32)), some (.int a6), none], [], 0, 0)) (M' := fun _ => (I3, J, sm_rf t d)) rfl h trivial (fun a6 h => ?_)
      exact (G_Mo_spare_29 hD hQ sd_fu _ _ _ _ _ h)
    · refine sm_W.run (sm_C_mono D) 1 (G := True) (fr' := (22, [some (.ref 61), some (.int x1), some (.int r4), none, none, none], [.int (-1 : Int32)], 0, 0)) (M' := (I3, J, sm_rf t d)) rfl trivial ?_
      cases h
      exact sm_W.ret (sm_C_mono D) rfl hQ
  · refine sm_W.run (sm_C_mono D) 1 (G := True) (fr' := (8, [some (.ref 61), some (.int x1), none, none, none, none], [.int (0 : Int32)], 0, 0)) (M' := (I3, J, sm_rf t d)) rfl trivial ?_
    cases h
    exact sm_W.ret (sm_C_mono D) rfl hQ
theorem T_Mo_spare {X : Nat × (Nat → Int32)} {t d D : Nat} {Q : sm_Q} {I : sm_MI} {J : sm_MJ} {x1 : Int32} {rz : Int32} {Iz : sm_MI}
    (hD : 5 ≤ D) (h : F_Mo_spare x1 I = some (rz, Iz)) (hQ : Q (.inl (some (.int rz))) (Iz, J, sm_rf t d)) : sm_C sm_sh X sm_P D 226 [.ref 61, .int x1] (I, J, sm_rf t d) Q := by
  cases D with
  | zero => omega
  | succ D => exact sm_C.of (me := me_226) (L := [some (.ref 61), some (.int x1), none, none, none, none]) rfl rfl rfl (sm_W.forget (L' := [some (.ref 61), some (.int x1), none, none, none, none]) ⟨rfl, ⟨rfl, trivial⟩⟩ (G_Mo_spare (by omega) h hQ))
