/-! ===== printed by wip/gen/emit_parts.py: what the methods compute ===== -/
-- 240 Mo_lackingIn
noncomputable def F_Mo_lackingIn (x1 : Int32) (I : sm_MI) : Option (Int32) :=
  sd_gu (sm_in x1 20 = true) <|
  sd_q1 (F_Mo_areSo 86 (0 : Int32) I) fun r2 =>
  sd_q1 (F_Mo_ableOf r2 x1 (0 : Int32) I) fun r3 =>
  sd_q1 (F_Mo_bits r3) fun r4 =>
  sd_lt ((I 67 (Int32.toNatClampNeg x1)) - r4) fun a5 =>
  if a5 ≤ 0 then
    some ((0 : Int32))
  else
    some (a5)
theorem G_Mo_lackingIn {X : Nat × (Nat → Int32)} {t d D : Nat} {Q : sm_Q} {I : sm_MI} {J : sm_MJ} {x1 : Int32} {rz : Int32}
    (hD : 3 ≤ D) (h : F_Mo_lackingIn x1 I = some (rz)) (hQ : Q (.inl (some (.int rz))) (I, J, sm_rf t d))  : sm_W sm_sh X (sm_C sm_sh X sm_P D) me_240 Q (0, [some (.ref 61), some (.int x1), none], [], 0, 0) (I, J, sm_rf t d) := by
  unfold F_Mo_lackingIn at h
  obtain ⟨g1, h⟩ := sd_gu_go h
  refine sm_W.run (sm_C_mono D) 9 (G := sm_in x1 20 = true ∧ True) (fr' := (9, [some (.ref 61), some (.int x1), none], [.int (0 : Int32), .ref 86, .ref 61, .ref 61, .int (I 67 (Int32.toNatClampNeg x1))], 0, 0)) (M' := (I, J, sm_rf t d)) rfl ⟨g1, trivial⟩ ?_
  obtain ⟨r2, hc, h⟩ := sd_q1_go h
  refine sm_W.cal (sm_C_mono D) (y := 196) (as := [.ref 61, .ref 86, .int (0 : Int32)]) (fr' := (10, [some (.ref 61), some (.int x1), none], [.ref 61, .int (I 67 (Int32.toNatClampNeg x1))], 0, 0)) rfl (T_Mo_areSo (by omega) (by decide) hc ?_)
  show sm_W sm_sh X (sm_C sm_sh X sm_P D) me_240 Q (10, [some (.ref 61), some (.int x1), none], [.int r2, .ref 61, .int (I 67 (Int32.toNatClampNeg x1))], 0, 0) (I, J, sm_rf t d)
  refine sm_W.run (sm_C_mono D) 2 (G := True) (fr' := (12, [some (.ref 61), some (.int x1), none], [.int (0 : Int32), .int x1, .int r2, .ref 61, .int (I 67 (Int32.toNatClampNeg x1))], 0, 0)) (M' := (I, J, sm_rf t d)) rfl trivial ?_
  obtain ⟨r3, hc, h⟩ := sd_q1_go h
  refine sm_W.cal (sm_C_mono D) (y := 199) (as := [.ref 61, .int r2, .int x1, .int (0 : Int32)]) (fr' := (13, [some (.ref 61), some (.int x1), none], [.int (I 67 (Int32.toNatClampNeg x1))], 0, 0)) rfl (T_Mo_ableOf (by omega) hc ?_)
  show sm_W sm_sh X (sm_C sm_sh X sm_P D) me_240 Q (13, [some (.ref 61), some (.int x1), none], [.int r3, .int (I 67 (Int32.toNatClampNeg x1))], 0, 0) (I, J, sm_rf t d)
  obtain ⟨r4, hc, h⟩ := sd_q1_go h
  refine sm_W.cal (sm_C_mono D) (y := 161) (as := [.int r3]) (fr' := (14, [some (.ref 61), some (.int x1), none], [.int (I 67 (Int32.toNatClampNeg x1))], 0, 0)) rfl (T_Mo_bits (by omega) hc ?_)
  show sm_W sm_sh X (sm_C sm_sh X sm_P D) me_240 Q (14, [some (.ref 61), some (.int x1), none], [.int r4, .int (I 67 (Int32.toNatClampNeg x1))], 0, 0) (I, J, sm_rf t d)
  refine sm_W.runL (sm_C_mono D) 2 (G := True) (e := ((I 67 (Int32.toNatClampNeg x1)) - r4)) (fr' := fun a5 => (16, [some (.ref 61), some (.int x1), some (.int a5)], [], 0, 0)) (M' := fun _ => (I, J, sm_rf t d)) rfl h trivial (fun a5 h => ?_)
  refine sm_W.run (sm_C_mono D) 2 (G := True) (fr' := (if decide (a5 ≤ 0) = true then 20 else 18, [some (.ref 61), some (.int x1), some (.int a5)], [], 0, 0)) (M' := (I, J, sm_rf t d)) rfl trivial (sm_W.iteD h (fun hc h => ?_) (fun hc h => ?_))
  · refine sm_W.run (sm_C_mono D) 1 (G := True) (fr' := (21, [some (.ref 61), some (.int x1), some (.int a5)], [.int (0 : Int32)], 0, 0)) (M' := (I, J, sm_rf t d)) rfl trivial ?_
    cases h
    exact sm_W.ret (sm_C_mono D) rfl hQ
  · refine sm_W.run (sm_C_mono D) 2 (G := True) (fr' := (21, [some (.ref 61), some (.int x1), some (.int a5)], [.int a5], 0, 0)) (M' := (I, J, sm_rf t d)) rfl trivial ?_
    cases h
    exact sm_W.ret (sm_C_mono D) rfl hQ
theorem T_Mo_lackingIn {X : Nat × (Nat → Int32)} {t d D : Nat} {Q : sm_Q} {I : sm_MI} {J : sm_MJ} {x1 : Int32} {rz : Int32}
    (hD : 4 ≤ D) (h : F_Mo_lackingIn x1 I = some (rz)) (hQ : Q (.inl (some (.int rz))) (I, J, sm_rf t d)) : sm_C sm_sh X sm_P D 240 [.ref 61, .int x1] (I, J, sm_rf t d) Q := by
  cases D with
  | zero => omega
  | succ D => exact sm_C.of (me := me_240) (L := [some (.ref 61), some (.int x1), none]) rfl rfl rfl (sm_W.forget (L' := [some (.ref 61), some (.int x1), none]) ⟨rfl, ⟨rfl, trivial⟩⟩ (G_Mo_lackingIn (by omega) h hQ))
-- 241 Mo_lacking
noncomputable def F_Mo_lacking_25 (x1 : Int32) (x2 : Int32) (s1 : Int32) (I : sm_MI) : Option (Int32 × sm_MI) :=
  sd_q2 (F_Mo_right s1 (1 : Int32) I) fun r1 I2 =>
  if r1 = 0 then
    some ((0 : Int32), I2)
  else
    sd_q1 (F_Mo_lackingIn (((4 : Int32) * x1) + x2) I2) fun r3 =>
    some (r3, I2)
noncomputable def F_Mo_lacking (x1 : Int32) (x2 : Int32) (I : sm_MI) : Option (Int32 × sm_MI) :=
  sd_lt (sd_up I 61 0 (0 : Int32)) fun I1 =>
  sd_q2 (F_Mo_isPiece x1 I1) fun r2 I3 =>
  if r2 = 0 then
    some ((0 : Int32), I3)
  else
    sd_q2 (F_Mo_isWhat x2 (3 : Int32) I3) fun r4 I5 =>
    if r4 = 0 then
      some ((0 : Int32), I5)
    else
      sd_gu (sm_in (((4 : Int32) * x1) + x2) 20 = true) <|
      if (I5 67 (Int32.toNatClampNeg (((4 : Int32) * x1) + x2))) ≤ 0 then
        F_Mo_lacking_25 x1 x2 (0 : Int32) I5
      else
        F_Mo_lacking_25 x1 x2 (1 : Int32) I5
theorem G_Mo_lacking_25 {X : Nat × (Nat → Int32)} {t d D : Nat} {Q : sm_Q} {I : sm_MI} {J : sm_MJ} {x1 : Int32} {x2 : Int32} {s1 : Int32} {rz : Int32} {Iz : sm_MI}
    (hD : 4 ≤ D) (h : F_Mo_lacking_25 x1 x2 s1 I = some (rz, Iz)) (hQ : Q (.inl (some (.int rz))) (Iz, J, sm_rf t d))  : sm_W sm_sh X (sm_C sm_sh X sm_P D) me_241 Q (25, [some (.ref 61), some (.int x1), some (.int x2)], [.int s1, .ref 61], 0, 0) (I, J, sm_rf t d) := by
  unfold F_Mo_lacking_25 at h
  refine sm_W.run (sm_C_mono D) 1 (G := True) (fr' := (26, [some (.ref 61), some (.int x1), some (.int x2)], [.int (1 : Int32), .int s1, .ref 61], 0, 0)) (M' := (I, J, sm_rf t d)) rfl trivial ?_
  obtain ⟨r1, I2, hc, h⟩ := sd_q2_go h
  refine sm_W.cal (sm_C_mono D) (y := 158) (as := [.ref 61, .int s1, .int (1 : Int32)]) (fr' := (27, [some (.ref 61), some (.int x1), some (.int x2)], [], 0, 0)) rfl (T_Mo_right (by omega) hc ?_)
  show sm_W sm_sh X (sm_C sm_sh X sm_P D) me_241 Q (27, [some (.ref 61), some (.int x1), some (.int x2)], [.int r1], 0, 0) (I2, J, sm_rf t d)
  refine sm_W.run (sm_C_mono D) 1 (G := True) (fr' := (if decide (r1 = 0) = true then 36 else 28, [some (.ref 61), some (.int x1), some (.int x2)], [], 0, 0)) (M' := (I2, J, sm_rf t d)) rfl trivial (sm_W.iteD h (fun hc h => ?_) (fun hc h => ?_))
  · refine sm_W.run (sm_C_mono D) 1 (G := True) (fr' := (37, [some (.ref 61), some (.int x1), some (.int x2)], [.int (0 : Int32)], 0, 0)) (M' := (I2, J, sm_rf t d)) rfl trivial ?_
    cases h
    exact sm_W.ret (sm_C_mono D) rfl hQ
  · refine sm_W.run (sm_C_mono D) 6 (G := True) (fr' := (34, [some (.ref 61), some (.int x1), some (.int x2)], [.int (((4 : Int32) * x1) + x2), .ref 61], 0, 0)) (M' := (I2, J, sm_rf t d)) rfl trivial ?_
    obtain ⟨r3, hc, h⟩ := sd_q1_go h
    refine sm_W.cal (sm_C_mono D) (y := 240) (as := [.ref 61, .int (((4 : Int32) * x1) + x2)]) (fr' := (35, [some (.ref 61), some (.int x1), some (.int x2)], [], 0, 0)) rfl (T_Mo_lackingIn (by omega) hc ?_)
    show sm_W sm_sh X (sm_C sm_sh X sm_P D) me_241 Q (35, [some (.ref 61), some (.int x1), some (.int x2)], [.int r3], 0, 0) (I2, J, sm_rf t d)
    refine sm_W.run (sm_C_mono D) 1 (G := True) (fr' := (37, [some (.ref 61), some (.int x1), some (.int x2)], [.int r3], 0, 0)) (M' := (I2, J, sm_rf t d)) rfl trivial ?_
    cases h
    exact sm_W.ret (sm_C_mono D) rfl hQ
theorem G_Mo_lacking {X : Nat × (Nat → Int32)} {t d D : Nat} {Q : sm_Q} {I : sm_MI} {J : sm_MJ} {x1 : Int32} {x2 : Int32} {rz : Int32} {Iz : sm_MI}
    (hD : 4 ≤ D) (h : F_Mo_lacking x1 x2 I = some (rz, Iz)) (hQ : Q (.inl (some (.int rz))) (Iz, J, sm_rf t d))  : sm_W sm_sh X (sm_C sm_sh X sm_P D) me_241 Q (0, [some (.ref 61), some (.int x1), some (.int x2)], [], 0, 0) (I, J, sm_rf t d) := by
  unfold F_Mo_lacking at h
  refine sm_W.runL (sm_C_mono D) 3 (G := True) (e := (sd_up I 61 0 (0 : Int32))) (fr' := fun _ => (3, [some (.ref 61), some (.int x1), some (.int x2)], [], 0, 0)) (M' := fun I1 => (I1, J, sm_rf t d)) rfl h trivial (fun I1 h => ?_)
  refine sm_W.run (sm_C_mono D) 2 (G := True) (fr' := (5, [some (.ref 61), some (.int x1), some (.int x2)], [.int x1, .ref 61], 0, 0)) (M' := (I1, J, sm_rf t d)) rfl trivial ?_
  obtain ⟨r2, I3, hc, h⟩ := sd_q2_go h
  refine sm_W.cal (sm_C_mono D) (y := 205) (as := [.ref 61, .int x1]) (fr' := (6, [some (.ref 61), some (.int x1), some (.int x2)], [], 0, 0)) rfl (T_Mo_isPiece (by omega) hc ?_)
  show sm_W sm_sh X (sm_C sm_sh X sm_P D) me_241 Q (6, [some (.ref 61), some (.int x1), some (.int x2)], [.int r2], 0, 0) (I3, J, sm_rf t d)
  refine sm_W.run (sm_C_mono D) 1 (G := True) (fr' := (if decide (r2 = 0) = true then 36 else 7, [some (.ref 61), some (.int x1), some (.int x2)], [], 0, 0)) (M' := (I3, J, sm_rf t d)) rfl trivial (sm_W.iteD h (fun hc h => ?_) (fun hc h => ?_))
  · refine sm_W.run (sm_C_mono D) 1 (G := True) (fr' := (37, [some (.ref 61), some (.int x1), some (.int x2)], [.int (0 : Int32)], 0, 0)) (M' := (I3, J, sm_rf t d)) rfl trivial ?_
    cases h
    exact sm_W.ret (sm_C_mono D) rfl hQ
  · refine sm_W.run (sm_C_mono D) 3 (G := True) (fr' := (10, [some (.ref 61), some (.int x1), some (.int x2)], [.int (3 : Int32), .int x2, .ref 61], 0, 0)) (M' := (I3, J, sm_rf t d)) rfl trivial ?_
    obtain ⟨r4, I5, hc, h⟩ := sd_q2_go h
    refine sm_W.cal (sm_C_mono D) (y := 206) (as := [.ref 61, .int x2, .int (3 : Int32)]) (fr' := (11, [some (.ref 61), some (.int x1), some (.int x2)], [], 0, 0)) rfl (T_Mo_isWhat (by omega) hc ?_)
    show sm_W sm_sh X (sm_C sm_sh X sm_P D) me_241 Q (11, [some (.ref 61), some (.int x1), some (.int x2)], [.int r4], 0, 0) (I5, J, sm_rf t d)
    refine sm_W.run (sm_C_mono D) 1 (G := True) (fr' := (if decide (r4 = 0) = true then 36 else 12, [some (.ref 61), some (.int x1), some (.int x2)], [], 0, 0)) (M' := (I5, J, sm_rf t d)) rfl trivial (sm_W.iteD h (fun hc h => ?_) (fun hc h => ?_))
    · refine sm_W.run (sm_C_mono D) 1 (G := True) (fr' := (37, [some (.ref 61), some (.int x1), some (.int x2)], [.int (0 : Int32)], 0, 0)) (M' := (I5, J, sm_rf t d)) rfl trivial ?_
      cases h
      exact sm_W.ret (sm_C_mono D) rfl hQ
    · obtain ⟨g6, h⟩ := sd_gu_go h
      refine sm_W.run (sm_C_mono D) 10 (G := sm_in (((4 : Int32) * x1) + x2) 20 = true ∧ True) (fr' := (if decide ((I5 67 (Int32.toNatClampNeg (((4 : Int32) * x1) + x2))) ≤ 0) = true then 24 else 22, [some (.ref 61), some (.int x1), some (.int x2)], [.ref 61], 0, 0)) (M' := (I5, J, sm_rf t d)) rfl ⟨g6, trivial⟩ (sm_W.iteD h (fun hc h => ?_) (fun hc h => ?_))
      · refine sm_W.run (sm_C_mono D) 1 (G := True) (fr' := (25, [some (.ref 61), some (.int x1), some (.int x2)], [.int (0 : Int32), .ref 61], 0, 0)) (M' := (I5, J, sm_rf t d)) rfl trivial ?_
        exact (G_Mo_lacking_25 hD h hQ)
      · refine sm_W.run (sm_C_mono D) 2 (G := True) (fr' := (25, [some (.ref 61), some (.int x1), some (.int x2)], [.int (1 : Int32), .ref 61], 0, 0)) (M' := (I5, J, sm_rf t d)) rfl trivial ?_
        exact (G_Mo_lacking_25 hD h hQ)
theorem T_Mo_lacking {X : Nat × (Nat → Int32)} {t d D : Nat} {Q : sm_Q} {I : sm_MI} {J : sm_MJ} {x1 : Int32} {x2 : Int32} {rz : Int32} {Iz : sm_MI}
    (hD : 5 ≤ D) (h : F_Mo_lacking x1 x2 I = some (rz, Iz)) (hQ : Q (.inl (some (.int rz))) (Iz, J, sm_rf t d)) : sm_C sm_sh X sm_P D 241 [.ref 61, .int x1, .int x2] (I, J, sm_rf t d) Q := by
  cases D with
  | zero => omega
  | succ D => exact sm_C.of (me := me_241) (L := [some (.ref 61), some (.int x1), some (.int x2)]) rfl rfl rfl (sm_W.forget (L' := [some (.ref 61), some (.int x1), some (.int x2)]) ⟨rfl, ⟨rfl, ⟨rfl, trivial⟩⟩⟩ (G_Mo_lacking (by omega) h hQ))
-- 242 Mo_widerFor
noncomputable def F_Mo_widerFor_33 (k12 : Int32 → Int32 → Int32 → Int32 → Int32 → Option (Int32)) (x1 : Int32) (x2 : Int32) (x4 : Int32) (x5 : Int32) (x6 : Int32) (s0 : Int32) (I : sm_MI) : Option (Int32) :=
  if x6 ≤ x4 then
    k12 x1 x2 s0 x4 (x5 + (1 : Int32))
  else
    k12 x1 x2 s0 x6 (x5 + (1 : Int32))
noncomputable def F_Mo_widerFor_12B (k12 : Int32 → Int32 → Int32 → Int32 → Int32 → Option (Int32)) (x1 : Int32) (x2 : Int32) (x3 : Int32) (x4 : Int32) (x5 : Int32) (I : sm_MI) : Option (Int32) :=
  sd_gu (sm_in x2 20 = true) <|
  if (I 68 (Int32.toNatClampNeg x2)) ≤ x5 then
    sd_gu (sm_in x1 14 = true) <|
    sd_gu (sm_in x1 14 = true) <|
    some (((((I 64 (Int32.toNatClampNeg x1)) - x3) + x4) - (I 65 (Int32.toNatClampNeg x1))))
  else
    sd_gu (sm_in (((12 : Int32) * x2) + x5) 240 = true) <|
    sd_lt (I 69 (Int32.toNatClampNeg (((12 : Int32) * x2) + x5))) fun a5 =>
    if x3 ≤ a5 then
      F_Mo_widerFor_33 k12 x1 x2 x4 x5 a5 x3 I
    else
      F_Mo_widerFor_33 k12 x1 x2 x4 x5 a5 a5 I
noncomputable def F_Mo_widerFor_12 (I : sm_MI) (n : Nat) : Int32 → Int32 → Int32 → Int32 → Int32 → Option (Int32) :=
  sd_fix (fun k x1 x2 x3 x4 x5 => F_Mo_widerFor_12B k x1 x2 x3 x4 x5 I) (fun _ _ _ _ _ => none) n
noncomputable def F_Mo_widerFor (x1 : Int32) (x2 : Int32) (I : sm_MI) : Option (Int32) :=
  sd_gu (sm_in x1 14 = true) <|
  sd_lt (I 64 (Int32.toNatClampNeg x1)) fun a2 =>
  sd_gu (sm_in x1 14 = true) <|
  sd_lt (I 65 (Int32.toNatClampNeg x1)) fun a4 =>
  F_Mo_widerFor_12 I sd_fu x1 x2 a2 a4 (0 : Int32)
theorem G_Mo_widerFor_33 {X : Nat × (Nat → Int32)} {t d D : Nat} {Q : sm_Q} {I : sm_MI} {J : sm_MJ} {k12 : Int32 → Int32 → Int32 → Int32 → Int32 → Option (Int32)} {x1 : Int32} {x2 : Int32} {x4 : Int32} {x5 : Int32} {x6 : Int32} {s0 : Int32} {rz : Int32}
    (hD : 0 ≤ D) (h : F_Mo_widerFor_33 k12 x1 x2 x4 x5 x6 s0 I = some (rz)) (hQ : Q (.inl (some (.int rz))) (I, J, sm_rf t d)) (hk12 : ∀ (x1 : Int32) (x2 : Int32) (x3 : Int32) (x4 : Int32) (x5 : Int32), k12 x1 x2 x3 x4 x5 = some (rz) → sm_W sm_sh X (sm_C sm_sh X sm_P D) me_242 Q (12, [some (.ref 61), some (.int x1), some (.int x2), some (.int x3), some (.int x4), some (.int x5), none], [], 0, 0) (I, J, sm_rf t d)) : sm_W sm_sh X (sm_C sm_sh X sm_P D) me_242 Q (33, [some (.ref 61), some (.int x1), some (.int x2), none, some (.int x4), some (.int x5), some (.int x6)], [.int s0], 0, 0) (I, J, sm_rf t d) := by
  unfold F_Mo_widerFor_33 at h
  refine sm_W.run (sm_C_mono D) 4 (G := True) (fr' := (if decide (x6 ≤ x4) = true then 39 else 37, [some (.ref 61), some (.int x1), some (.int x2), some (.int s0), some (.int x4), some (.int x5), some (.int x6)], [], 0, 0)) (M' := (I, J, sm_rf t d)) rfl trivial (sm_W.iteD h (fun hc h => ?_) (fun hc h => ?_))
  · refine sm_W.run (sm_C_mono D) 4 (G := True) (fr' := (12, [some (.ref 61), some (.int x1), some (.int x2), some (.int s0), some (.int x4), some (.int (x5 + (1 : Int32))), some (.int x6)], [], 0, 0)) (M' := (I, J, sm_rf t d)) rfl trivial ?_
    exact sm_W.forget (L' := [some (.ref 61), some (.int x1), some (.int x2), some (.int s0), some (.int x4), some (.int (x5 + (1 : Int32))), none]) ⟨rfl, ⟨rfl, ⟨rfl, ⟨rfl, ⟨rfl, ⟨rfl, trivial⟩⟩⟩⟩⟩⟩ (hk12 _ _ _ _ _ h)
  · refine sm_W.run (sm_C_mono D) 5 (G := True) (fr' := (12, [some (.ref 61), some (.int x1), some (.int x2), some (.int s0), some (.int x6), some (.int (x5 + (1 : Int32))), some (.int x6)], [], 0, 0)) (M' := (I, J, sm_rf t d)) rfl trivial ?_
    exact sm_W.forget (L' := [some (.ref 61), some (.int x1), some (.int x2), some (.int s0), some (.int x6), some (.int (x5 + (1 : Int32))), none]) ⟨rfl, ⟨rfl, ⟨rfl, ⟨rfl, ⟨rfl, ⟨rfl, trivial⟩⟩⟩⟩⟩⟩ (hk12 _ _ _ _ _ h)
theorem G_Mo_widerFor_12B {X : Nat × (Nat → Int32)} {t d D : Nat} {Q : sm_Q} {I : sm_MI} {J : sm_MJ} {k12 : Int32 → Int32 → Int32 → Int32 → Int32 → Option (Int32)} {x1 : Int32} {x2 : Int32} {x3 : Int32} {x4 : Int32} {x5 : Int32} {rz : Int32}
    (hD : 0 ≤ D) (h : F_Mo_widerFor_12B k12 x1 x2 x3 x4 x5 I = some (rz)) (hQ : Q (.inl (some (.int rz))) (I, J, sm_rf t d)) (hk12 : ∀ (x1 : Int32) (x2 : Int32) (x3 : Int32) (x4 : Int32) (x5 : Int32), k12 x1 x2 x3 x4 x5 = some (rz) → sm_W sm_sh X (sm_C sm_sh X sm_P D) me_242 Q (12, [some (.ref 61), some (.int x1), some (.int x2), some (.int x3), some (.int x4), some (.int x5), none], [], 0, 0) (I, J, sm_rf t d)) : sm_W sm_sh X (sm_C sm_sh X sm_P D) me_242 Q (12, [some (.ref 61), some (.int x1), some (.int x2), some (.int x3), some (.int x4), some (.int x5), none], [], 0, 0) (I, J, sm_rf t d) := by
  unfold F_Mo_widerFor_12B at h
  obtain ⟨g1, h⟩ := sd_gu_go h
  refine sm_W.run (sm_C_mono D) 6 (G := sm_in x2 20 = true ∧ True) (fr' := (if decide ((I 68 (Int32.toNatClampNeg x2)) ≤ x5) = true then 43 else 18, [some (.ref 61), some (.int x1), some (.int x2), some (.int x3), some (.int x4), some (.int x5), none], [], 0, 0)) (M' := (I, J, sm_rf t d)) rfl ⟨g1, trivial⟩ (sm_W.iteD h (fun hc h => ?_) (fun hc h => ?_))
  · obtain ⟨g2, h⟩ := sd_gu_go h
    obtain ⟨g3, h⟩ := sd_gu_go h
    refine sm_W.run (sm_C_mono D) 13 (G := sm_in x1 14 = true ∧ sm_in x1 14 = true ∧ True) (fr' := (56, [some (.ref 61), some (.int x1), some (.int x2), some (.int x3), some (.int x4), some (.int x5), none], [.int ((((I 64 (Int32.toNatClampNeg x1)) - x3) + x4) - (I 65 (Int32.toNatClampNeg x1)))], 0, 0)) (M' := (I, J, sm_rf t d)) rfl ⟨g2, g3, trivial⟩ ?_
    cases h
    exact sm_W.ret (sm_C_mono D) rfl hQ
  · obtain ⟨g4, h⟩ := sd_gu_go h
    refine sm_W.runL (sm_C_mono D) 9 (G := sm_in (((12 : Int32) * x2) + x5) 240 = true ∧ True) (e := (I 69 (Int32.toNatClampNeg (((12 : Int32) * x2) + x5)))) (fr' := fun a5 => (27, [some (.ref 61), some (.int x1), some (.int x2), some (.int x3), some (.int x4), some (.int x5), some (.int a5)], [], 0, 0)) (M' := fun _ => (I, J, sm_rf t d)) rfl h ⟨g4, trivial⟩ (fun a5 h => ?_)
    refine sm_W.run (sm_C_mono D) 3 (G := True) (fr' := (if decide (x3 ≤ a5) = true then 32 else 30, [some (.ref 61), some (.int x1), some (.int x2), some (.int x3), some (.int x4), some (.int x5), some (.int a5)], [], 0, 0)) (M' := (I, J, sm_rf t d)) rfl trivial (sm_W.iteD h (fun hc h => ?_) (fun hc h => ?_))
    · refine sm_W.run (sm_C_mono D) 1 (G := True) (fr' := (33, [some (.ref 61), some (.int x1), some (.int x2), some (.int x3), some (.int x4), some (.int x5), some (.int a5)], [.int x3], 0, 0)) (M' := (I, J, sm_rf t d)) rfl trivial ?_
      exact sm_W.forget (L' := [some (.ref 61), some (.int x1), some (.int x2), none, some (.int x4), some (.int x5), some (.int a5)]) ⟨rfl, ⟨rfl, ⟨rfl, ⟨rfl, ⟨rfl, ⟨rfl, trivial⟩⟩⟩⟩⟩⟩ (G_Mo_widerFor_33 hD h hQ hk12)
    · refine sm_W.run (sm_C_mono D) 2 (G := True) (fr' := (33, [some (.ref 61), some (.int x1), some (.int x2), some (.int x3), some (.int x4), some (.int x5), some (.int a5)], [.int a5], 0, 0)) (M' := (I, J, sm_rf t d)) rfl trivial ?_
      exact sm_W.forget (L' := [some (.ref 61), some (.int x1), some (.int x2), none, some (.int x4), some (.int x5), some (.int a5)]) ⟨rfl, ⟨rfl, ⟨rfl, ⟨rfl, ⟨rfl, ⟨rfl, trivial⟩⟩⟩⟩⟩⟩ (G_Mo_widerFor_33 hD h hQ hk12)
theorem G_Mo_widerFor_12 {X : Nat × (Nat → Int32)} {t d D : Nat} {Q : sm_Q} {I : sm_MI} {J : sm_MJ} {rz : Int32}
    (hD : 0 ≤ D) (hQ : Q (.inl (some (.int rz))) (I, J, sm_rf t d))  : ∀ (n : Nat) (x1 : Int32) (x2 : Int32) (x3 : Int32) (x4 : Int32) (x5 : Int32), F_Mo_widerFor_12 I n x1 x2 x3 x4 x5 = some (rz) → sm_W sm_sh X (sm_C sm_sh X sm_P D) me_242 Q (12, [some (.ref 61), some (.int x1), some (.int x2), some (.int x3), some (.int x4), some (.int x5), none], [], 0, 0) (I, J, sm_rf t d) := by
  intro n
  induction n with
  | zero => intro x1 x2 x3 x4 x5 h; cases (show (none : Option (Int32)) = some (rz) from h)
  | succ n ih => intro x1 x2 x3 x4 x5 h; exact G_Mo_widerFor_12B hD (show F_Mo_widerFor_12B (F_Mo_widerFor_12 I n) x1 x2 x3 x4 x5 I = some (rz) from h) hQ  ih
theorem G_Mo_widerFor {X : Nat × (Nat → Int32)} {t d D : Nat} {Q : sm_Q} {I : sm_MI} {J : sm_MJ} {x1 : Int32} {x2 : Int32} {rz : Int32}
    (hD : 0 ≤ D) (h : F_Mo_widerFor x1 x2 I = some (rz)) (hQ : Q (.inl (some (.int rz))) (I, J, sm_rf t d))  : sm_W sm_sh X (sm_C sm_sh X sm_P D) me_242 Q (0, [some (.ref 61), some (.int x1), some (.int x2), none, none, none, none], [], 0, 0) (I, J, sm_rf t d) := by
  unfold F_Mo_widerFor at h
  obtain ⟨g1, h⟩ := sd_gu_go h
  refine sm_W.runL (sm_C_mono D) 5 (G := sm_in x1 14 = true ∧ True) (e := (I 64 (Int32.toNatClampNeg x1))) (fr' := fun a2 => (5, [some (.ref 61), some (.int x1), some (.int x2), some (.int a2), none, none, none], [], 0, 0)) (M' := fun _ => (I, J, sm_rf t d)) rfl h ⟨g1, trivial⟩ (fun a2 h => ?_)
  obtain ⟨g3, h⟩ := sd_gu_go h
  refine sm_W.runL (sm_C_mono D) 5 (G := sm_in x1 14 = true ∧ True) (e := (I 65 (Int32.toNatClampNeg x1))) (fr' := fun a4 => (10, [some (.ref 61), some (.int x1), some (.int x2), some (.int a2), some (.int a4), none, none], [], 0, 0)) (M' := fun _ => (I, J, sm_rf t d)) rfl h ⟨g3, trivial⟩ (fun a4 h => ?_)
  refine sm_W.run (sm_C_mono D) 2 (G := True) (fr' := (12, [some (.ref 61), some (.int x1), some (.int x2), some (.int a2), some (.int a4), some (.int (0 : Int32)), none], [], 0, 0)) (M' := (I, J, sm_rf t d)) rfl trivial ?_
  exact (G_Mo_widerFor_12 hD hQ sd_fu _ _ _ _ _ h)
theorem T_Mo_widerFor {X : Nat × (Nat → Int32)} {t d D : Nat} {Q : sm_Q} {I : sm_MI} {J : sm_MJ} {x1 : Int32} {x2 : Int32} {rz : Int32}
    (hD : 1 ≤ D) (h : F_Mo_widerFor x1 x2 I = some (rz)) (hQ : Q (.inl (some (.int rz))) (I, J, sm_rf t d)) : sm_C sm_sh X sm_P D 242 [.ref 61, .int x1, .int x2] (I, J, sm_rf t d) Q := by
  cases D with
  | zero => omega
  | succ D => exact sm_C.of (me := me_242) (L := [some (.ref 61), some (.int x1), some (.int x2), none, none, none, none]) rfl rfl rfl (sm_W.forget (L' := [some (.ref 61), some (.int x1), some (.int x2), none, none, none, none]) ⟨rfl, ⟨rfl, ⟨rfl, trivial⟩⟩⟩ (G_Mo_widerFor (by omega) h hQ))
-- 243 Mo_widen
noncomputable def F_Mo_widen_84B (k84 : Int32 → Int32 → Int32 → Int32 → Int32 → sm_MI → Option (Int32 × sm_MI)) (x2 : Int32) (x3 : Int32) (x5 : Int32) (x6 : Int32) (x7 : Int32) (I : sm_MI) : Option (Int32 × sm_MI) :=
  if (I 61 1) ≤ x7 then
    if x2 = (1 : Int32) then
      some (x6, I)
    else
      if ¬ x6 = (-1 : Int32) then
        sd_q1 (F_Mo_widerFor x6 x5 I) fun r1 =>
        some (r1, I)
      else
        some (x6, I)
  else
    if ((x3 >>> (x7 &&& 31)) &&& (1 : Int32)) = 0 then
      k84 x2 x3 x5 x6 (x7 + (1 : Int32)) I
    else
      sd_gu (sm_in x7 14 = true) <|
      sd_gu (¬ (4 : Int32) = 0) <|
      if ¬ (I 63 (Int32.toNatClampNeg x7)) = (sd_mod x5 (4 : Int32)) then
        k84 x2 x3 x5 x6 (x7 + (1 : Int32)) I
      else
        sd_q1 (F_Mo_hasAll x7 x5 (0 : Int32) I) fun r4 =>
        if r4 = 0 then
          if x6 = (-1 : Int32) then
            k84 x2 x3 x5 x7 (x7 + (1 : Int32)) I
          else
            sd_q1 (F_Mo_widerFor x7 x5 I) fun r5 =>
            sd_q1 (F_Mo_widerFor x6 x5 I) fun r6 =>
            if r6 ≤ r5 then
              k84 x2 x3 x5 x6 (x7 + (1 : Int32)) I
            else
              k84 x2 x3 x5 x7 (x7 + (1 : Int32)) I
        else
          k84 x2 x3 x5 x6 (x7 + (1 : Int32)) I
noncomputable def F_Mo_widen_84  (n : Nat) : Int32 → Int32 → Int32 → Int32 → Int32 → sm_MI → Option (Int32 × sm_MI) :=
  sd_fix (fun k x2 x3 x5 x6 x7 I => F_Mo_widen_84B k x2 x3 x5 x6 x7 I) (fun _ _ _ _ _ _ => none) n
noncomputable def F_Mo_widen_58 (k40 : Int32 → Int32 → Int32 → Int32 → Int32 → Int32 → sm_MI → Option (Int32 × sm_MI)) (x1 : Int32) (x2 : Int32) (x3 : Int32) (x5 : Int32) (x6 : Int32) (s0 : Int32) (s1 : Int32) (I : sm_MI) : Option (Int32 × sm_MI) :=
  sd_lt (s0 + s1) fun a1 =>
  sd_gu (sm_in x6 20 = true) <|
  if (I 67 (Int32.toNatClampNeg x6)) ≤ 0 then
    k40 x1 x2 x3 a1 x5 (x6 + (1 : Int32)) I
  else
    sd_q1 (F_Mo_lackingIn x6 I) fun r3 =>
    if r3 ≤ 0 then
      k40 x1 x2 x3 a1 x5 (x6 + (1 : Int32)) I
    else
      k40 x1 x2 x3 a1 x6 (x6 + (1 : Int32)) I
noncomputable def F_Mo_widen_40B (k40 : Int32 → Int32 → Int32 → Int32 → Int32 → Int32 → sm_MI → Option (Int32 × sm_MI)) (x1 : Int32) (x2 : Int32) (x3 : Int32) (x4 : Int32) (x5 : Int32) (x6 : Int32) (I : sm_MI) : Option (Int32 × sm_MI) :=
  if (((4 : Int32) * x1) + (4 : Int32)) ≤ x6 then
    if x4 = (1 : Int32) then
      F_Mo_widen_84 sd_fu x2 x3 x5 (-1 : Int32) (0 : Int32) I
    else
      some ((-1 : Int32), I)
  else
    sd_gu (sm_in x6 20 = true) <|
    if ¬ (I 67 (Int32.toNatClampNeg x6)) = 0 then
      sd_q1 (F_Mo_lackingIn x6 I) fun r2 =>
      F_Mo_widen_58 k40 x1 x2 x3 x5 x6 x4 r2 I
    else
      F_Mo_widen_58 k40 x1 x2 x3 x5 x6 x4 (0 : Int32) I
noncomputable def F_Mo_widen_40  (n : Nat) : Int32 → Int32 → Int32 → Int32 → Int32 → Int32 → sm_MI → Option (Int32 × sm_MI) :=
  sd_fix (fun k x1 x2 x3 x4 x5 x6 I => F_Mo_widen_40B k x1 x2 x3 x4 x5 x6 I) (fun _ _ _ _ _ _ _ => none) n
noncomputable def F_Mo_widen (x1 : Int32) (x2 : Int32) (I : sm_MI) : Option (Int32 × sm_MI) :=
  sd_lt (sd_up I 61 0 (0 : Int32)) fun I1 =>
  sd_q2 (F_Mo_isPiece x1 I1) fun r2 I3 =>
  if r2 = 0 then
    some ((0 : Int32), I3)
  else
    sd_q2 (F_Mo_isWhat x2 (1 : Int32) I3) fun r4 I5 =>
    if ¬ r4 = 0 then
      sd_q1 (F_Mo_areSo 86 (0 : Int32) I5) fun r6 =>
      sd_q1 (F_Mo_canBeSung r6 x1 (0 : Int32) I5) fun r7 =>
      if r7 = 0 then
        sd_lt ((4 : Int32) * x1) fun a8 =>
        F_Mo_widen_40 sd_fu x1 x2 r6 (0 : Int32) (-1 : Int32) a8 I5
      else
        if ¬ x2 = 0 then
          some ((-1 : Int32), I5)
        else
          some ((0 : Int32), I5)
    else
      some ((0 : Int32), I5)
theorem G_Mo_widen_84B {X : Nat × (Nat → Int32)} {t d D : Nat} {Q : sm_Q} {I : sm_MI} {J : sm_MJ} {k84 : Int32 → Int32 → Int32 → Int32 → Int32 → sm_MI → Option (Int32 × sm_MI)} {x2 : Int32} {x3 : Int32} {x5 : Int32} {x6 : Int32} {x7 : Int32} {rz : Int32} {Iz : sm_MI}
    (hD : 4 ≤ D) (h : F_Mo_widen_84B k84 x2 x3 x5 x6 x7 I = some (rz, Iz)) (hQ : Q (.inl (some (.int rz))) (Iz, J, sm_rf t d)) (hk84 : ∀ (x2 : Int32) (x3 : Int32) (x5 : Int32) (x6 : Int32) (x7 : Int32) (I : sm_MI), k84 x2 x3 x5 x6 x7 I = some (rz, Iz) → sm_W sm_sh X (sm_C sm_sh X sm_P D) me_243 Q (84, [some (.ref 61), none, some (.int x2), some (.int x3), none, some (.int x5), some (.int x6), some (.int x7)], [], 0, 0) (I, J, sm_rf t d)) : sm_W sm_sh X (sm_C sm_sh X sm_P D) me_243 Q (84, [some (.ref 61), none, some (.int x2), some (.int x3), none, some (.int x5), some (.int x6), some (.int x7)], [], 0, 0) (I, J, sm_rf t d) := by
  unfold F_Mo_widen_84B at h
  refine sm_W.run (sm_C_mono D) 4 (G := True) (fr' := (if decide ((I 61 1) ≤ x7) = true then 125 else 88, [some (.ref 61), none, some (.int x2), some (.int x3), none, some (.int x5), some (.int x6), some (.int x7)], [], 0, 0)) (M' := (I, J, sm_rf t d)) rfl trivial (sm_W.iteD h (fun hc h => ?_) (fun hc h => ?_))
  · refine sm_W.run (sm_C_mono D) 3 (G := True) (fr' := (if decide (x2 = (1 : Int32)) = true then 131 else 128, [some (.ref 61), none, some (.int x2), some (.int x3), none, some (.int x5), some (.int x6), some (.int x7)], [], 0, 0)) (M' := (I, J, sm_rf t d)) rfl trivial (sm_W.iteD h (fun hc h => ?_) (fun hc h => ?_))
    · refine sm_W.run (sm_C_mono D) 2 (G := True) (fr' := (137, [some (.ref 61), none, some (.int x2), some (.int x3), none, some (.int x5), some (.int x6), some (.int x7)], [.int x6], 0, 0)) (M' := (I, J, sm_rf t d)) rfl trivial ?_
      cases h
      exact sm_W.ret (sm_C_mono D) rfl hQ
    · refine sm_W.run (sm_C_mono D) 3 (G := True) (fr' := (if decide (¬ x6 = (-1 : Int32)) = true then 133 else 131, [some (.ref 61), none, some (.int x2), some (.int x3), none, some (.int x5), some (.int x6), some (.int x7)], [], 0, 0)) (M' := (I, J, sm_rf t d)) rfl trivial (sm_W.iteD h (fun hc h => ?_) (fun hc h => ?_))
      · refine sm_W.run (sm_C_mono D) 3 (G := True) (fr' := (136, [some (.ref 61), none, some (.int x2), some (.int x3), none, some (.int x5), some (.int x6), some (.int x7)], [.int x5, .int x6, .ref 61], 0, 0)) (M' := (I, J, sm_rf t d)) rfl trivial ?_
        obtain ⟨r1, hc, h⟩ := sd_q1_go h
        refine sm_W.cal (sm_C_mono D) (y := 242) (as := [.ref 61, .int x6, .int x5]) (fr' := (137, [some (.ref 61), none, some (.int x2), some (.int x3), none, some (.int x5), some (.int x6), some (.int x7)], [], 0, 0)) rfl (T_Mo_widerFor (by omega) hc ?_)
        show sm_W sm_sh X (sm_C sm_sh X sm_P D) me_243 Q (137, [some (.ref 61), none, some (.int x2), some (.int x3), none, some (.int x5), some (.int x6), some (.int x7)], [.int r1], 0, 0) (I, J, sm_rf t d)
        cases h
        exact sm_W.ret (sm_C_mono D) rfl hQ
      · refine sm_W.run (sm_C_mono D) 2 (G := True) (fr' := (137, [some (.ref 61), none, some (.int x2), some (.int x3), none, some (.int x5), some (.int x6), some (.int x7)], [.int x6], 0, 0)) (M' := (I, J, sm_rf t d)) rfl trivial ?_
        cases h
        exact sm_W.ret (sm_C_mono D) rfl hQ
  · refine sm_W.run (sm_C_mono D) 6 (G := True) (fr' := (if decide (((x3 >>> (x7 &&& 31)) &&& (1 : Int32)) = 0) = true then 123 else 94, [some (.ref 61), none, some (.int x2), some (.int x3), none, some (.int x5), some (.int x6), some (.int x7)], [], 0, 0)) (M' := (I, J, sm_rf t d)) rfl trivial (sm_W.iteD h (fun hc h => ?_) (fun hc h => ?_))
    · refine sm_W.run (sm_C_mono D) 2 (G := True) (fr' := (84, [some (.ref 61), none, some (.int x2), some (.int x3), none, some (.int x5), some (.int x6), some (.int (x7 + (1 : Int32)))], [], 0, 0)) (M' := (I, J, sm_rf t d)) rfl trivial ?_
      exact (hk84 _ _ _ _ _ _ h)
    · obtain ⟨g2, h⟩ := sd_gu_go h
      obtain ⟨g3, h⟩ := sd_gu_go h
      refine sm_W.run (sm_C_mono D) 8 (G := sm_in x7 14 = true ∧ ¬ (4 : Int32) = 0 ∧ True) (fr' := (if decide (¬ (I 63 (Int32.toNatClampNeg x7)) = (sd_mod x5 (4 : Int32))) = true then 123 else 102, [some (.ref 61), none, some (.int x2), some (.int x3), none, some (.int x5), some (.int x6), some (.int x7)], [], 0, 0)) (M' := (I, J, sm_rf t d)) rfl ⟨g2, g3, trivial⟩ (sm_W.iteD h (fun hc h => ?_) (fun hc h => ?_))
      · refine sm_W.run (sm_C_mono D) 2 (G := True) (fr' := (84, [some (.ref 61), none, some (.int x2), some (.int x3), none, some (.int x5), some (.int x6), some (.int (x7 + (1 : Int32)))], [], 0, 0)) (M' := (I, J, sm_rf t d)) rfl trivial ?_
        exact (hk84 _ _ _ _ _ _ h)
      · refine sm_W.run (sm_C_mono D) 4 (G := True) (fr' := (106, [some (.ref 61), none, some (.int x2), some (.int x3), none, some (.int x5), some (.int x6), some (.int x7)], [.int (0 : Int32), .int x5, .int x7, .ref 61], 0, 0)) (M' := (I, J, sm_rf t d)) rfl trivial ?_
        obtain ⟨r4, hc, h⟩ := sd_q1_go h
        refine sm_W.cal (sm_C_mono D) (y := 198) (as := [.ref 61, .int x7, .int x5, .int (0 : Int32)]) (fr' := (107, [some (.ref 61), none, some (.int x2), some (.int x3), none, some (.int x5), some (.int x6), some (.int x7)], [], 0, 0)) rfl (T_Mo_hasAll (by omega) hc ?_)
        show sm_W sm_sh X (sm_C sm_sh X sm_P D) me_243 Q (107, [some (.ref 61), none, some (.int x2), some (.int x3), none, some (.int x5), some (.int x6), some (.int x7)], [.int r4], 0, 0) (I, J, sm_rf t d)
        refine sm_W.run (sm_C_mono D) 1 (G := True) (fr' := (if decide (r4 = 0) = true then 109 else 108, [some (.ref 61), none, some (.int x2), some (.int x3), none, some (.int x5), some (.int x6), some (.int x7)], [], 0, 0)) (M' := (I, J, sm_rf t d)) rfl trivial (sm_W.iteD h (fun hc h => ?_) (fun hc h => ?_))
        · refine sm_W.run (sm_C_mono D) 3 (G := True) (fr' := (if decide (x6 = (-1 : Int32)) = true then 121 else 112, [some (.ref 61), none, some (.int x2), some (.int x3), none, some (.int x5), some (.int x6), some (.int x7)], [], 0, 0)) (M' := (I, J, sm_rf t d)) rfl trivial (sm_W.iteD h (fun hc h => ?_) (fun hc h => ?_))
          · refine sm_W.run (sm_C_mono D) 4 (G := True) (fr' := (84, [some (.ref 61), none, some (.int x2), some (.int x3), none, some (.int x5), some (.int x7), some (.int (x7 + (1 : Int32)))], [], 0, 0)) (M' := (I, J, sm_rf t d)) rfl trivial ?_
            exact (hk84 _ _ _ _ _ _ h)
          · refine sm_W.run (sm_C_mono D) 3 (G := True) (fr' := (115, [some (.ref 61), none, some (.int x2), some (.int x3), none, some (.int x5), some (.int x6), some (.int x7)], [.int x5, .int x7, .ref 61], 0, 0)) (M' := (I, J, sm_rf t d)) rfl trivial ?_
            obtain ⟨r5, hc, h⟩ := sd_q1_go h
            refine sm_W.cal (sm_C_mono D) (y := 242) (as := [.ref 61, .int x7, .int x5]) (fr' := (116, [some (.ref 61), none, some (.int x2), some (.int x3), none, some (.int x5), some (.int x6), some (.int x7)], [], 0, 0)) rfl (T_Mo_widerFor (by omega) hc ?_)
            show sm_W sm_sh X (sm_C sm_sh X sm_P D) me_243 Q (116, [some (.ref 61), none, some (.int x2), some (.int x3), none, some (.int x5), some (.int x6), some (.int x7)], [.int r5], 0, 0) (I, J, sm_rf t d)
            refine sm_W.run (sm_C_mono D) 3 (G := True) (fr' := (119, [some (.ref 61), none, some (.int x2), some (.int x3), none, some (.int x5), some (.int x6), some (.int x7)], [.int x5, .int x6, .ref 61, .int r5], 0, 0)) (M' := (I, J, sm_rf t d)) rfl trivial ?_
            obtain ⟨r6, hc, h⟩ := sd_q1_go h
            refine sm_W.cal (sm_C_mono D) (y := 242) (as := [.ref 61, .int x6, .int x5]) (fr' := (120, [some (.ref 61), none, some (.int x2), some (.int x3), none, some (.int x5), some (.int x6), some (.int x7)], [.int r5], 0, 0)) rfl (T_Mo_widerFor (by omega) hc ?_)
            show sm_W sm_sh X (sm_C sm_sh X sm_P D) me_243 Q (120, [some (.ref 61), none, some (.int x2), some (.int x3), none, some (.int x5), some (.int x6), some (.int x7)], [.int r6, .int r5], 0, 0) (I, J, sm_rf t d)
            refine sm_W.run (sm_C_mono D) 1 (G := True) (fr' := (if decide (r6 ≤ r5) = true then 123 else 121, [some (.ref 61), none, some (.int x2), some (.int x3), none, some (.int x5), some (.int x6), some (.int x7)], [], 0, 0)) (M' := (I, J, sm_rf t d)) rfl trivial (sm_W.iteD h (fun hc h => ?_) (fun hc h => ?_))
            · refine sm_W.run (sm_C_mono D) 2 (G := True) (fr' := (84, [some (.ref 61), none, some (.int x2), some (.int x3), none, some (.int x5), some (.int x6), some (.int (x7 + (1 : Int32)))], [], 0, 0)) (M' := (I, J, sm_rf t d)) rfl trivial ?_
              exact (hk84 _ _ _ _ _ _ h)
            · refine sm_W.run (sm_C_mono D) 4 (G := True) (fr' := (84, [some (.ref 61), none, some (.int x2), some (.int x3), none, some (.int x5), some (.int x7), some (.int (x7 + (1 : Int32)))], [], 0, 0)) (M' := (I, J, sm_rf t d)) rfl trivial ?_
              exact (hk84 _ _ _ _ _ _ h)
        · refine sm_W.run (sm_C_mono D) 3 (G := True) (fr' := (84, [some (.ref 61), none, some (.int x2), some (.int x3), none, some (.int x5), some (.int x6), some (.int (x7 + (1 : Int32)))], [], 0, 0)) (M' := (I, J, sm_rf t d)) rfl trivial ?_
          exact (hk84 _ _ _ _ _ _ h)
theorem G_Mo_widen_84 {X : Nat × (Nat → Int32)} {t d D : Nat} {Q : sm_Q} {J : sm_MJ} {rz : Int32} {Iz : sm_MI}
    (hD : 4 ≤ D) (hQ : Q (.inl (some (.int rz))) (Iz, J, sm_rf t d))  : ∀ (n : Nat) (x2 : Int32) (x3 : Int32) (x5 : Int32) (x6 : Int32) (x7 : Int32) (I : sm_MI), F_Mo_widen_84 n x2 x3 x5 x6 x7 I = some (rz, Iz) → sm_W sm_sh X (sm_C sm_sh X sm_P D) me_243 Q (84, [some (.ref 61), none, some (.int x2), some (.int x3), none, some (.int x5), some (.int x6), some (.int x7)], [], 0, 0) (I, J, sm_rf t d) := by
  intro n
  induction n with
  | zero => intro x2 x3 x5 x6 x7 I h; cases (show (none : Option (Int32 × sm_MI)) = some (rz, Iz) from h)
  | succ n ih => intro x2 x3 x5 x6 x7 I h; exact G_Mo_widen_84B hD (show F_Mo_widen_84B (F_Mo_widen_84 n) x2 x3 x5 x6 x7 I = some (rz, Iz) from h) hQ  ih
theorem G_Mo_widen_58 {X : Nat × (Nat → Int32)} {t d D : Nat} {Q : sm_Q} {I : sm_MI} {J : sm_MJ} {k40 : Int32 → Int32 → Int32 → Int32 → Int32 → Int32 → sm_MI → Option (Int32 × sm_MI)} {x1 : Int32} {x2 : Int32} {x3 : Int32} {x5 : Int32} {x6 : Int32} {s0 : Int32} {s1 : Int32} {rz : Int32} {Iz : sm_MI}
    (hD : 4 ≤ D) (h : F_Mo_widen_58 k40 x1 x2 x3 x5 x6 s0 s1 I = some (rz, Iz)) (hQ : Q (.inl (some (.int rz))) (Iz, J, sm_rf t d)) (hk40 : ∀ (x1 : Int32) (x2 : Int32) (x3 : Int32) (x4 : Int32) (x5 : Int32) (x6 : Int32) (I : sm_MI), k40 x1 x2 x3 x4 x5 x6 I = some (rz, Iz) → sm_W sm_sh X (sm_C sm_sh X sm_P D) me_243 Q (40, [some (.ref 61), some (.int x1), some (.int x2), some (.int x3), some (.int x4), some (.int x5), some (.int x6), none], [], 0, 0) (I, J, sm_rf t d)) : sm_W sm_sh X (sm_C sm_sh X sm_P D) me_243 Q (58, [some (.ref 61), some (.int x1), some (.int x2), some (.int x3), none, some (.int x5), some (.int x6), none], [.int s1, .int s0], 0, 0) (I, J, sm_rf t d) := by
  unfold F_Mo_widen_58 at h
  refine sm_W.runL (sm_C_mono D) 2 (G := True) (e := (s0 + s1)) (fr' := fun a1 => (60, [some (.ref 61), some (.int x1), some (.int x2), some (.int x3), some (.int a1), some (.int x5), some (.int x6), none], [], 0, 0)) (M' := fun _ => (I, J, sm_rf t d)) rfl h trivial (fun a1 h => ?_)
  obtain ⟨g2, h⟩ := sd_gu_go h
  refine sm_W.run (sm_C_mono D) 5 (G := sm_in x6 20 = true ∧ True) (fr' := (if decide ((I 67 (Int32.toNatClampNeg x6)) ≤ 0) = true then 71 else 65, [some (.ref 61), some (.int x1), some (.int x2), some (.int x3), some (.int a1), some (.int x5), some (.int x6), none], [], 0, 0)) (M' := (I, J, sm_rf t d)) rfl ⟨g2, trivial⟩ (sm_W.iteD h (fun hc h => ?_) (fun hc h => ?_))
  · refine sm_W.run (sm_C_mono D) 4 (G := True) (fr' := (40, [some (.ref 61), some (.int x1), some (.int x2), some (.int x3), some (.int a1), some (.int x5), some (.int (x6 + (1 : Int32))), none], [], 0, 0)) (M' := (I, J, sm_rf t d)) rfl trivial ?_
    exact (hk40 _ _ _ _ _ _ _ h)
  · refine sm_W.run (sm_C_mono D) 2 (G := True) (fr' := (67, [some (.ref 61), some (.int x1), some (.int x2), some (.int x3), some (.int a1), some (.int x5), some (.int x6), none], [.int x6, .ref 61], 0, 0)) (M' := (I, J, sm_rf t d)) rfl trivial ?_
    obtain ⟨r3, hc, h⟩ := sd_q1_go h
    refine sm_W.cal (sm_C_mono D) (y := 240) (as := [.ref 61, .int x6]) (fr' := (68, [some (.ref 61), some (.int x1), some (.int x2), some (.int x3), some (.int a1), some (.int x5), some (.int x6), none], [], 0, 0)) rfl (T_Mo_lackingIn (by omega) hc ?_)
    show sm_W sm_sh X (sm_C sm_sh X sm_P D) me_243 Q (68, [some (.ref 61), some (.int x1), some (.int x2), some (.int x3), some (.int a1), some (.int x5), some (.int x6), none], [.int r3], 0, 0) (I, J, sm_rf t d)
    refine sm_W.run (sm_C_mono D) 1 (G := True) (fr' := (if decide (r3 ≤ 0) = true then 71 else 69, [some (.ref 61), some (.int x1), some (.int x2), some (.int x3), some (.int a1), some (.int x5), some (.int x6), none], [], 0, 0)) (M' := (I, J, sm_rf t d)) rfl trivial (sm_W.iteD h (fun hc h => ?_) (fun hc h => ?_))
    · refine sm_W.run (sm_C_mono D) 4 (G := True) (fr' := (40, [some (.ref 61), some (.int x1), some (.int x2), some (.int x3), some (.int a1), some (.int x5), some (.int (x6 + (1 : Int32))), none], [], 0, 0)) (M' := (I, J, sm_rf t d)) rfl trivial ?_
      exact (hk40 _ _ _ _ _ _ _ h)
    · refine sm_W.run (sm_C_mono D) 5 (G := True) (fr' := (40, [some (.ref 61), some (.int x1), some (.int x2), some (.int x3), some (.int a1), some (.int x6), some (.int (x6 + (1 : Int32))), none], [], 0, 0)) (M' := (I, J, sm_rf t d)) rfl trivial ?_
      exact (hk40 _ _ _ _ _ _ _ h)
theorem G_Mo_widen_40B {X : Nat × (Nat → Int32)} {t d D : Nat} {Q : sm_Q} {I : sm_MI} {J : sm_MJ} {k40 : Int32 → Int32 → Int32 → Int32 → Int32 → Int32 → sm_MI → Option (Int32 × sm_MI)} {x1 : Int32} {x2 : Int32} {x3 : Int32} {x4 : Int32} {x5 : Int32} {x6 : Int32} {rz : Int32} {Iz : sm_MI}
    (hD : 4 ≤ D) (h : F_Mo_widen_40B k40 x1 x2 x3 x4 x5 x6 I = some (rz, Iz)) (hQ : Q (.inl (some (.int rz))) (Iz, J, sm_rf t d)) (hk40 : ∀ (x1 : Int32) (x2 : Int32) (x3 : Int32) (x4 : Int32) (x5 : Int32) (x6 : Int32) (I : sm_MI), k40 x1 x2 x3 x4 x5 x6 I = some (rz, Iz) → sm_W sm_sh X (sm_C sm_sh X sm_P D) me_243 Q (40, [some (.ref 61), some (.int x1), some (.int x2), some (.int x3), some (.int x4), some (.int x5), some (.int x6), none], [], 0, 0) (I, J, sm_rf t d)) : sm_W sm_sh X (sm_C sm_sh X sm_P D) me_243 Q (40, [some (.ref 61), some (.int x1), some (.int x2), some (.int x3), some (.int x4), some (.int x5), some (.int x6), none], [], 0, 0) (I, J, sm_rf t d) := by
  unfold F_Mo_widen_40B at h
  refine sm_W.run (sm_C_mono D) 7 (G := True) (fr' := (if decide ((((4 : Int32) * x1) + (4 : Int32)) ≤ x6) = true then 75 else 47, [some (.ref 61), some (.int x1), some (.int x2), some (.int x3), some (.int x4), some (.int x5), some (.int x6), none], [], 0, 0)) (M' := (I, J, sm_rf t d)) rfl trivial (sm_W.iteD h (fun hc h => ?_) (fun hc h => ?_))
  · refine sm_W.run (sm_C_mono D) 3 (G := True) (fr' := (if decide (x4 = (1 : Int32)) = true then 80 else 78, [some (.ref 61), some (.int x1), some (.int x2), some (.int x3), some (.int x4), some (.int x5), some (.int x6), none], [], 0, 0)) (M' := (I, J, sm_rf t d)) rfl trivial (sm_W.iteD h (fun hc h => ?_) (fun hc h => ?_))
    · refine sm_W.run (sm_C_mono D) 4 (G := True) (fr' := (84, [some (.ref 61), some (.int x1), some (.int x2), some (.int x3), some (.int x4), some (.int x5), some (.int (-1 : Int32)), some (.int (0 : Int32))], [], 0, 0)) (M' := (I, J, sm_rf t d)) rfl trivial ?_
      exact sm_W.forget (L' := [some (.ref 61), none, some (.int x2), some (.int x3), none, some (.int x5), some (.int (-1 : Int32)), some (.int (0 : Int32))]) ⟨rfl, ⟨rfl, ⟨rfl, ⟨rfl, ⟨rfl, ⟨rfl, trivial⟩⟩⟩⟩⟩⟩ (G_Mo_widen_84 hD hQ sd_fu _ _ _ _ _ _ h)
    · refine sm_W.run (sm_C_mono D) 1 (G := True) (fr' := (79, [some (.ref 61), some (.int x1), some (.int x2), some (.int x3), some (.int x4), some (.int x5), some (.int x6), none], [.int (-1 : Int32)], 0, 0)) (M' := (I, J, sm_rf t d)) rfl trivial ?_
      cases h
      exact sm_W.ret (sm_C_mono D) rfl hQ
  · obtain ⟨g1, h⟩ := sd_gu_go h
    refine sm_W.run (sm_C_mono D) 6 (G := sm_in x6 20 = true ∧ True) (fr' := (if decide (¬ (I 67 (Int32.toNatClampNeg x6)) = 0) = true then 55 else 53, [some (.ref 61), some (.int x1), some (.int x2), some (.int x3), some (.int x4), some (.int x5), some (.int x6), none], [.int x4], 0, 0)) (M' := (I, J, sm_rf t d)) rfl ⟨g1, trivial⟩ (sm_W.iteD h (fun hc h => ?_) (fun hc h => ?_))
    · refine sm_W.run (sm_C_mono D) 2 (G := True) (fr' := (57, [some (.ref 61), some (.int x1), some (.int x2), some (.int x3), some (.int x4), some (.int x5), some (.int x6), none], [.int x6, .ref 61, .int x4], 0, 0)) (M' := (I, J, sm_rf t d)) rfl trivial ?_
      obtain ⟨r2, hc, h⟩ := sd_q1_go h
      refine sm_W.cal (sm_C_mono D) (y := 240) (as := [.ref 61, .int x6]) (fr' := (58, [some (.ref 61), some (.int x1), some (.int x2), some (.int x3), some (.int x4), some (.int x5), some (.int x6), none], [.int x4], 0, 0)) rfl (T_Mo_lackingIn (by omega) hc ?_)
      show sm_W sm_sh X (sm_C sm_sh X sm_P D) me_243 Q (58, [some (.ref 61), some (.int x1), some (.int x2), some (.int x3), some (.int x4), some (.int x5), some (.int x6), none], [.int r2, .int x4], 0, 0) (I, J, sm_rf t d)
      exact sm_W.forget (L' := [some (.ref 61), some (.int x1), some (.int x2), some (.int x3), none, some (.int x5), some (.int x6), none]) ⟨rfl, ⟨rfl, ⟨rfl, ⟨rfl, ⟨rfl, ⟨rfl, trivial⟩⟩⟩⟩⟩⟩ (G_Mo_widen_58 hD h hQ hk40)
    · refine sm_W.run (sm_C_mono D) 2 (G := True) (fr' := (58, [some (.ref 61), some (.int x1), some (.int x2), some (.int x3), some (.int x4), some (.int x5), some (.int x6), none], [.int (0 : Int32), .int x4], 0, 0)) (M' := (I, J, sm_rf t d)) rfl trivial ?_
      exact sm_W.forget (L' := [some (.ref 61), some (.int x1), some (.int x2), some (.int x3), none, some (.int x5), some (.int x6), none]) ⟨rfl, ⟨rfl, ⟨rfl, ⟨rfl, ⟨rfl, ⟨rfl, trivial⟩⟩⟩⟩⟩⟩ (G_Mo_widen_58 hD h hQ hk40)
theorem G_Mo_widen_40 {X : Nat × (Nat → Int32)} {t d D : Nat} {Q : sm_Q} {J : sm_MJ} {rz : Int32} {Iz : sm_MI}
    (hD : 4 ≤ D) (hQ : Q (.inl (some (.int rz))) (Iz, J, sm_rf t d))  : ∀ (n : Nat) (x1 : Int32) (x2 : Int32) (x3 : Int32) (x4 : Int32) (x5 : Int32) (x6 : Int32) (I : sm_MI), F_Mo_widen_40 n x1 x2 x3 x4 x5 x6 I = some (rz, Iz) → sm_W sm_sh X (sm_C sm_sh X sm_P D) me_243 Q (40, [some (.ref 61), some (.int x1), some (.int x2), some (.int x3), some (.int x4), some (.int x5), some (.int x6), none], [], 0, 0) (I, J, sm_rf t d) := by
  intro n
  induction n with
  | zero => intro x1 x2 x3 x4 x5 x6 I h; cases (show (none : Option (Int32 × sm_MI)) = some (rz, Iz) from h)
  | succ n ih => intro x1 x2 x3 x4 x5 x6 I h; exact G_Mo_widen_40B hD (show F_Mo_widen_40B (F_Mo_widen_40 n) x1 x2 x3 x4 x5 x6 I = some (rz, Iz) from h) hQ  ih
theorem G_Mo_widen {X : Nat × (Nat → Int32)} {t d D : Nat} {Q : sm_Q} {I : sm_MI} {J : sm_MJ} {x1 : Int32} {x2 : Int32} {rz : Int32} {Iz : sm_MI}
    (hD : 4 ≤ D) (h : F_Mo_widen x1 x2 I = some (rz, Iz)) (hQ : Q (.inl (some (.int rz))) (Iz, J, sm_rf t d))  : sm_W sm_sh X (sm_C sm_sh X sm_P D) me_243 Q (0, [some (.ref 61), some (.int x1), some (.int x2), none, none, none, none, none], [], 0, 0) (I, J, sm_rf t d) := by
  unfold F_Mo_widen at h
  refine sm_W.runL (sm_C_mono D) 3 (G := True) (e := (sd_up I 61 0 (0 : Int32))) (fr' := fun _ => (3, [some (.ref 61), some (.int x1), some (.int x2), none, none, none, none, none], [], 0, 0)) (M' := fun I1 => (I1, J, sm_rf t d)) rfl h trivial (fun I1 h => ?_)
  refine sm_W.run (sm_C_mono D) 2 (G := True) (fr' := (5, [some (.ref 61), some (.int x1), some (.int x2), none, none, none, none, none], [.int x1, .ref 61], 0, 0)) (M' := (I1, J, sm_rf t d)) rfl trivial ?_
  obtain ⟨r2, I3, hc, h⟩ := sd_q2_go h
  refine sm_W.cal (sm_C_mono D) (y := 205) (as := [.ref 61, .int x1]) (fr' := (6, [some (.ref 61), some (.int x1), some (.int x2), none, none, none, none, none], [], 0, 0)) rfl (T_Mo_isPiece (by omega) hc ?_)
  show sm_W sm_sh X (sm_C sm_sh X sm_P D) me_243 Q (6, [some (.ref 61), some (.int x1), some (.int x2), none, none, none, none, none], [.int r2], 0, 0) (I3, J, sm_rf t d)
  refine sm_W.run (sm_C_mono D) 1 (G := True) (fr' := (if decide (r2 = 0) = true then 12 else 7, [some (.ref 61), some (.int x1), some (.int x2), none, none, none, none, none], [], 0, 0)) (M' := (I3, J, sm_rf t d)) rfl trivial (sm_W.iteD h (fun hc h => ?_) (fun hc h => ?_))
  · refine sm_W.run (sm_C_mono D) 1 (G := True) (fr' := (13, [some (.ref 61), some (.int x1), some (.int x2), none, none, none, none, none], [.int (0 : Int32)], 0, 0)) (M' := (I3, J, sm_rf t d)) rfl trivial ?_
    cases h
    exact sm_W.ret (sm_C_mono D) rfl hQ
  · refine sm_W.run (sm_C_mono D) 3 (G := True) (fr' := (10, [some (.ref 61), some (.int x1), some (.int x2), none, none, none, none, none], [.int (1 : Int32), .int x2, .ref 61], 0, 0)) (M' := (I3, J, sm_rf t d)) rfl trivial ?_
    obtain ⟨r4, I5, hc, h⟩ := sd_q2_go h
    refine sm_W.cal (sm_C_mono D) (y := 206) (as := [.ref 61, .int x2, .int (1 : Int32)]) (fr' := (11, [some (.ref 61), some (.int x1), some (.int x2), none, none, none, none, none], [], 0, 0)) rfl (T_Mo_isWhat (by omega) hc ?_)
    show sm_W sm_sh X (sm_C sm_sh X sm_P D) me_243 Q (11, [some (.ref 61), some (.int x1), some (.int x2), none, none, none, none, none], [.int r4], 0, 0) (I5, J, sm_rf t d)
    refine sm_W.run (sm_C_mono D) 1 (G := True) (fr' := (if decide (¬ r4 = 0) = true then 14 else 12, [some (.ref 61), some (.int x1), some (.int x2), none, none, none, none, none], [], 0, 0)) (M' := (I5, J, sm_rf t d)) rfl trivial (sm_W.iteD h (fun hc h => ?_) (fun hc h => ?_))
    · refine sm_W.run (sm_C_mono D) 4 (G := True) (fr' := (18, [some (.ref 61), some (.int x1), some (.int x2), none, none, none, none, none], [.int (0 : Int32), .ref 86, .ref 61], 0, 0)) (M' := (I5, J, sm_rf t d)) rfl trivial ?_
      obtain ⟨r6, hc, h⟩ := sd_q1_go h
      refine sm_W.cal (sm_C_mono D) (y := 196) (as := [.ref 61, .ref 86, .int (0 : Int32)]) (fr' := (19, [some (.ref 61), some (.int x1), some (.int x2), none, none, none, none, none], [], 0, 0)) rfl (T_Mo_areSo (by omega) (by decide) hc ?_)
      show sm_W sm_sh X (sm_C sm_sh X sm_P D) me_243 Q (19, [some (.ref 61), some (.int x1), some (.int x2), none, none, none, none, none], [.int r6], 0, 0) (I5, J, sm_rf t d)
      refine sm_W.run (sm_C_mono D) 5 (G := True) (fr' := (24, [some (.ref 61), some (.int x1), some (.int x2), some (.int r6), none, none, none, none], [.int (0 : Int32), .int x1, .int r6, .ref 61], 0, 0)) (M' := (I5, J, sm_rf t d)) rfl trivial ?_
      obtain ⟨r7, hc, h⟩ := sd_q1_go h
      refine sm_W.cal (sm_C_mono D) (y := 201) (as := [.ref 61, .int r6, .int x1, .int (0 : Int32)]) (fr' := (25, [some (.ref 61), some (.int x1), some (.int x2), some (.int r6), none, none, none, none], [], 0, 0)) rfl (T_Mo_canBeSung (by omega) hc ?_)
      show sm_W sm_sh X (sm_C sm_sh X sm_P D) me_243 Q (25, [some (.ref 61), some (.int x1), some (.int x2), some (.int r6), none, none, none, none], [.int r7], 0, 0) (I5, J, sm_rf t d)
      refine sm_W.run (sm_C_mono D) 1 (G := True) (fr' := (if decide (r7 = 0) = true then 32 else 26, [some (.ref 61), some (.int x1), some (.int x2), some (.int r6), none, none, none, none], [], 0, 0)) (M' := (I5, J, sm_rf t d)) rfl trivial (sm_W.iteD h (fun hc h => ?_) (fun hc h => ?_))
      · refine sm_W.runL (sm_C_mono D) 8 (G := True) (e := ((4 : Int32) * x1)) (fr' := fun a8 => (40, [some (.ref 61), some (.int x1), some (.int x2), some (.int r6), some (.int (0 : Int32)), some (.int (-1 : Int32)), some (.int a8), none], [], 0, 0)) (M' := fun _ => (I5, J, sm_rf t d)) rfl h trivial (fun a8 h => ?_)
        exact (G_Mo_widen_40 hD hQ sd_fu _ _ _ _ _ _ _ h)
      · refine sm_W.run (sm_C_mono D) 2 (G := True) (fr' := (if decide (¬ x2 = 0) = true then 30 else 28, [some (.ref 61), some (.int x1), some (.int x2), some (.int r6), none, none, none, none], [], 0, 0)) (M' := (I5, J, sm_rf t d)) rfl trivial (sm_W.iteD h (fun hc h => ?_) (fun hc h => ?_))
        · refine sm_W.run (sm_C_mono D) 1 (G := True) (fr' := (31, [some (.ref 61), some (.int x1), some (.int x2), some (.int r6), none, none, none, none], [.int (-1 : Int32)], 0, 0)) (M' := (I5, J, sm_rf t d)) rfl trivial ?_
          cases h
          exact sm_W.ret (sm_C_mono D) rfl hQ
        · refine sm_W.run (sm_C_mono D) 2 (G := True) (fr' := (31, [some (.ref 61), some (.int x1), some (.int x2), some (.int r6), none, none, none, none], [.int (0 : Int32)], 0, 0)) (M' := (I5, J, sm_rf t d)) rfl trivial ?_
          cases h
          exact sm_W.ret (sm_C_mono D) rfl hQ
    · refine sm_W.run (sm_C_mono D) 1 (G := True) (fr' := (13, [some (.ref 61), some (.int x1), some (.int x2), none, none, none, none, none], [.int (0 : Int32)], 0, 0)) (M' := (I5, J, sm_rf t d)) rfl trivial ?_
      cases h
      exact sm_W.ret (sm_C_mono D) rfl hQ
theorem T_Mo_widen {X : Nat × (Nat → Int32)} {t d D : Nat} {Q : sm_Q} {I : sm_MI} {J : sm_MJ} {x1 : Int32} {x2 : Int32} {rz : Int32} {Iz : sm_MI}
    (hD : 5 ≤ D) (h : F_Mo_widen x1 x2 I = some (rz, Iz)) (hQ : Q (.inl (some (.int rz))) (Iz, J, sm_rf t d)) : sm_C sm_sh X sm_P D 243 [.ref 61, .int x1, .int x2] (I, J, sm_rf t d) Q := by
  cases D with
  | zero => omega
  | succ D => exact sm_C.of (me := me_243) (L := [some (.ref 61), some (.int x1), some (.int x2), none, none, none, none, none]) rfl rfl rfl (sm_W.forget (L' := [some (.ref 61), some (.int x1), some (.int x2), none, none, none, none, none]) ⟨rfl, ⟨rfl, ⟨rfl, trivial⟩⟩⟩ (G_Mo_widen (by omega) h hQ))
-- 244 Mo_bargain
noncomputable def F_Mo_bargain_24B (k18 : Int32 → Int32 → Int32 → Int32 → sm_MI → Option (Int32 × sm_MI)) (k24 : Int32 → Int32 → Int32 → Int32 → Int32 → sm_MI → Option (Int32 × sm_MI)) (x1 : Int32) (x2 : Int32) (x3 : Int32) (x4 : Int32) (x5 : Int32) (I : sm_MI) : Option (Int32 × sm_MI) :=
  if (I 61 1) ≤ x5 then
    k18 x1 x2 x3 (x4 + (1 : Int32)) I
  else
    sd_gu (sm_in x4 14 = true) <|
    if ¬ (I 62 (Int32.toNatClampNeg x4)) = 0 then
      k24 x1 x2 x3 x4 (x5 + (1 : Int32)) I
    else
      sd_gu (sm_in x5 14 = true) <|
      if ¬ (I 62 (Int32.toNatClampNeg x5)) = (1 : Int32) then
        k24 x1 x2 x3 x4 (x5 + (1 : Int32)) I
      else
        sd_gu (sm_in x4 16 = true) <|
        if ¬ (I 86 (Int32.toNatClampNeg x4)) = (1 : Int32) then
          k24 x1 x2 x3 x4 (x5 + (1 : Int32)) I
        else
          sd_gu (sm_in x5 16 = true) <|
          if (I 86 (Int32.toNatClampNeg x5)) = (1 : Int32) then
            sd_q1 (F_Mo_sungBy ((x1 ||| ((1 : Int32) <<< (x4 &&& 31))) ||| ((1 : Int32) <<< (x5 &&& 31))) I) fun r5 =>
            sd_q1 (F_Mo_bits r5) fun r6 =>
            if x3 < r6 then
              sd_lt (((100 : Int32) * x4) + x5) fun a7 =>
              k24 x1 a7 r6 x4 (x5 + (1 : Int32)) I
            else
              k24 x1 x2 x3 x4 (x5 + (1 : Int32)) I
          else
            k24 x1 x2 x3 x4 (x5 + (1 : Int32)) I
noncomputable def F_Mo_bargain_24 (k18 : Int32 → Int32 → Int32 → Int32 → sm_MI → Option (Int32 × sm_MI)) (n : Nat) : Int32 → Int32 → Int32 → Int32 → Int32 → sm_MI → Option (Int32 × sm_MI) :=
  sd_fix (fun k x1 x2 x3 x4 x5 I => F_Mo_bargain_24B k18 k x1 x2 x3 x4 x5 I) (fun _ _ _ _ _ _ => none) n
noncomputable def F_Mo_bargain_18B (k18 : Int32 → Int32 → Int32 → Int32 → sm_MI → Option (Int32 × sm_MI)) (x1 : Int32) (x2 : Int32) (x3 : Int32) (x4 : Int32) (I : sm_MI) : Option (Int32 × sm_MI) :=
  if (I 61 1) ≤ x4 then
    some (x2, I)
  else
    F_Mo_bargain_24 k18 sd_fu x1 x2 x3 x4 (0 : Int32) I
noncomputable def F_Mo_bargain_18  (n : Nat) : Int32 → Int32 → Int32 → Int32 → sm_MI → Option (Int32 × sm_MI) :=
  sd_fix (fun k x1 x2 x3 x4 I => F_Mo_bargain_18B k x1 x2 x3 x4 I) (fun _ _ _ _ _ => none) n
noncomputable def F_Mo_bargain (I : sm_MI) : Option (Int32 × sm_MI) :=
  sd_lt (sd_up I 61 0 (0 : Int32)) fun I1 =>
  sd_q1 (F_Mo_areSo 86 (0 : Int32) I1) fun r2 =>
  sd_q1 (F_Mo_sungBy r2 I1) fun r3 =>
  sd_q1 (F_Mo_bits r3) fun r4 =>
  F_Mo_bargain_18 sd_fu r2 (-1 : Int32) r4 (0 : Int32) I1
theorem G_Mo_bargain_24B {X : Nat × (Nat → Int32)} {t d D : Nat} {Q : sm_Q} {I : sm_MI} {J : sm_MJ} {k18 : Int32 → Int32 → Int32 → Int32 → sm_MI → Option (Int32 × sm_MI)} {k24 : Int32 → Int32 → Int32 → Int32 → Int32 → sm_MI → Option (Int32 × sm_MI)} {x1 : Int32} {x2 : Int32} {x3 : Int32} {x4 : Int32} {x5 : Int32} {rz : Int32} {Iz : sm_MI}
    (hD : 5 ≤ D) (h : F_Mo_bargain_24B k18 k24 x1 x2 x3 x4 x5 I = some (rz, Iz)) (hQ : Q (.inl (some (.int rz))) (Iz, J, sm_rf t d)) (hk18 : ∀ (x1 : Int32) (x2 : Int32) (x3 : Int32) (x4 : Int32) (I : sm_MI), k18 x1 x2 x3 x4 I = some (rz, Iz) → sm_W sm_sh X (sm_C sm_sh X sm_P D) me_244 Q (18, [some (.ref 61), some (.int x1), some (.int x2), some (.int x3), some (.int x4), none, none], [], 0, 0) (I, J, sm_rf t d)) (hk24 : ∀ (x1 : Int32) (x2 : Int32) (x3 : Int32) (x4 : Int32) (x5 : Int32) (I : sm_MI), k24 x1 x2 x3 x4 x5 I = some (rz, Iz) → sm_W sm_sh X (sm_C sm_sh X sm_P D) me_244 Q (24, [some (.ref 61), some (.int x1), some (.int x2), some (.int x3), some (.int x4), some (.int x5), none], [], 0, 0) (I, J, sm_rf t d)) : sm_W sm_sh X (sm_C sm_sh X sm_P D) me_244 Q (24, [some (.ref 61), some (.int x1), some (.int x2), some (.int x3), some (.int x4), some (.int x5), none], [], 0, 0) (I, J, sm_rf t d) := by
  unfold F_Mo_bargain_24B at h
  refine sm_W.run (sm_C_mono D) 4 (G := True) (fr' := (if decide ((I 61 1) ≤ x5) = true then 79 else 28, [some (.ref 61), some (.int x1), some (.int x2), some (.int x3), some (.int x4), some (.int x5), none], [], 0, 0)) (M' := (I, J, sm_rf t d)) rfl trivial (sm_W.iteD h (fun hc h => ?_) (fun hc h => ?_))
  · refine sm_W.run (sm_C_mono D) 2 (G := True) (fr' := (18, [some (.ref 61), some (.int x1), some (.int x2), some (.int x3), some (.int (x4 + (1 : Int32))), some (.int x5), none], [], 0, 0)) (M' := (I, J, sm_rf t d)) rfl trivial ?_
    exact sm_W.forget (L' := [some (.ref 61), some (.int x1), some (.int x2), some (.int x3), some (.int (x4 + (1 : Int32))), none, none]) ⟨rfl, ⟨rfl, ⟨rfl, ⟨rfl, ⟨rfl, trivial⟩⟩⟩⟩⟩ (hk18 _ _ _ _ _ h)
  · obtain ⟨g1, h⟩ := sd_gu_go h
    refine sm_W.run (sm_C_mono D) 5 (G := sm_in x4 14 = true ∧ True) (fr' := (if decide (¬ (I 62 (Int32.toNatClampNeg x4)) = 0) = true then 77 else 33, [some (.ref 61), some (.int x1), some (.int x2), some (.int x3), some (.int x4), some (.int x5), none], [], 0, 0)) (M' := (I, J, sm_rf t d)) rfl ⟨g1, trivial⟩ (sm_W.iteD h (fun hc h => ?_) (fun hc h => ?_))
    · refine sm_W.run (sm_C_mono D) 2 (G := True) (fr' := (24, [some (.ref 61), some (.int x1), some (.int x2), some (.int x3), some (.int x4), some (.int (x5 + (1 : Int32))), none], [], 0, 0)) (M' := (I, J, sm_rf t d)) rfl trivial ?_
      exact (hk24 _ _ _ _ _ _ h)
    · obtain ⟨g2, h⟩ := sd_gu_go h
      refine sm_W.run (sm_C_mono D) 6 (G := sm_in x5 14 = true ∧ True) (fr' := (if decide (¬ (I 62 (Int32.toNatClampNeg x5)) = (1 : Int32)) = true then 77 else 39, [some (.ref 61), some (.int x1), some (.int x2), some (.int x3), some (.int x4), some (.int x5), none], [], 0, 0)) (M' := (I, J, sm_rf t d)) rfl ⟨g2, trivial⟩ (sm_W.iteD h (fun hc h => ?_) (fun hc h => ?_))
      · refine sm_W.run (sm_C_mono D) 2 (G := True) (fr' := (24, [some (.ref 61), some (.int x1), some (.int x2), some (.int x3), some (.int x4), some (.int (x5 + (1 : Int32))), none], [], 0, 0)) (M' := (I, J, sm_rf t d)) rfl trivial ?_
        exact (hk24 _ _ _ _ _ _ h)
      · obtain ⟨g3, h⟩ := sd_gu_go h
        refine sm_W.run (sm_C_mono D) 6 (G := sm_in x4 16 = true ∧ True) (fr' := (if decide (¬ (I 86 (Int32.toNatClampNeg x4)) = (1 : Int32)) = true then 77 else 45, [some (.ref 61), some (.int x1), some (.int x2), some (.int x3), some (.int x4), some (.int x5), none], [], 0, 0)) (M' := (I, J, sm_rf t d)) rfl ⟨g3, trivial⟩ (sm_W.iteD h (fun hc h => ?_) (fun hc h => ?_))
        · refine sm_W.run (sm_C_mono D) 2 (G := True) (fr' := (24, [some (.ref 61), some (.int x1), some (.int x2), some (.int x3), some (.int x4), some (.int (x5 + (1 : Int32))), none], [], 0, 0)) (M' := (I, J, sm_rf t d)) rfl trivial ?_
          exact (hk24 _ _ _ _ _ _ h)
        · obtain ⟨g4, h⟩ := sd_gu_go h
          refine sm_W.run (sm_C_mono D) 6 (G := sm_in x5 16 = true ∧ True) (fr' := (if decide ((I 86 (Int32.toNatClampNeg x5)) = (1 : Int32)) = true then 52 else 51, [some (.ref 61), some (.int x1), some (.int x2), some (.int x3), some (.int x4), some (.int x5), none], [], 0, 0)) (M' := (I, J, sm_rf t d)) rfl ⟨g4, trivial⟩ (sm_W.iteD h (fun hc h => ?_) (fun hc h => ?_))
          · refine sm_W.run (sm_C_mono D) 10 (G := True) (fr' := (62, [some (.ref 61), some (.int x1), some (.int x2), some (.int x3), some (.int x4), some (.int x5), none], [.int ((x1 ||| ((1 : Int32) <<< (x4 &&& 31))) ||| ((1 : Int32) <<< (x5 &&& 31))), .ref 61], 0, 0)) (M' := (I, J, sm_rf t d)) rfl trivial ?_
            obtain ⟨r5, hc, h⟩ := sd_q1_go h
            refine sm_W.cal (sm_C_mono D) (y := 202) (as := [.ref 61, .int ((x1 ||| ((1 : Int32) <<< (x4 &&& 31))) ||| ((1 : Int32) <<< (x5 &&& 31)))]) (fr' := (63, [some (.ref 61), some (.int x1), some (.int x2), some (.int x3), some (.int x4), some (.int x5), none], [], 0, 0)) rfl (T_Mo_sungBy (by omega) hc ?_)
            show sm_W sm_sh X (sm_C sm_sh X sm_P D) me_244 Q (63, [some (.ref 61), some (.int x1), some (.int x2), some (.int x3), some (.int x4), some (.int x5), none], [.int r5], 0, 0) (I, J, sm_rf t d)
            obtain ⟨r6, hc, h⟩ := sd_q1_go h
            refine sm_W.cal (sm_C_mono D) (y := 161) (as := [.int r5]) (fr' := (64, [some (.ref 61), some (.int x1), some (.int x2), some (.int x3), some (.int x4), some (.int x5), none], [], 0, 0)) rfl (T_Mo_bits (by omega) hc ?_)
            show sm_W sm_sh X (sm_C sm_sh X sm_P D) me_244 Q (64, [some (.ref 61), some (.int x1), some (.int x2), some (.int x3), some (.int x4), some (.int x5), none], [.int r6], 0, 0) (I, J, sm_rf t d)
            refine sm_W.run (sm_C_mono D) 4 (G := True) (fr' := (if decide (x3 < r6) = true then 69 else 68, [some (.ref 61), some (.int x1), some (.int x2), some (.int x3), some (.int x4), some (.int x5), some (.int r6)], [], 0, 0)) (M' := (I, J, sm_rf t d)) rfl trivial (sm_W.iteD h (fun hc h => ?_) (fun hc h => ?_))
            · refine sm_W.runL (sm_C_mono D) 6 (G := True) (e := (((100 : Int32) * x4) + x5)) (fr' := fun a7 => (75, [some (.ref 61), some (.int x1), some (.int a7), some (.int x3), some (.int x4), some (.int x5), some (.int r6)], [], 0, 0)) (M' := fun _ => (I, J, sm_rf t d)) rfl h trivial (fun a7 h => ?_)
              refine sm_W.run (sm_C_mono D) 4 (G := True) (fr' := (24, [some (.ref 61), some (.int x1), some (.int a7), some (.int r6), some (.int x4), some (.int (x5 + (1 : Int32))), some (.int r6)], [], 0, 0)) (M' := (I, J, sm_rf t d)) rfl trivial ?_
              exact sm_W.forget (L' := [some (.ref 61), some (.int x1), some (.int a7), some (.int r6), some (.int x4), some (.int (x5 + (1 : Int32))), none]) ⟨rfl, ⟨rfl, ⟨rfl, ⟨rfl, ⟨rfl, ⟨rfl, trivial⟩⟩⟩⟩⟩⟩ (hk24 _ _ _ _ _ _ h)
            · refine sm_W.run (sm_C_mono D) 3 (G := True) (fr' := (24, [some (.ref 61), some (.int x1), some (.int x2), some (.int x3), some (.int x4), some (.int (x5 + (1 : Int32))), some (.int r6)], [], 0, 0)) (M' := (I, J, sm_rf t d)) rfl trivial ?_
              exact sm_W.forget (L' := [some (.ref 61), some (.int x1), some (.int x2), some (.int x3), some (.int x4), some (.int (x5 + (1 : Int32))), none]) ⟨rfl, ⟨rfl, ⟨rfl, ⟨rfl, ⟨rfl, ⟨rfl, trivial⟩⟩⟩⟩⟩⟩ (hk24 _ _ _ _ _ _ h)
          · refine sm_W.run (sm_C_mono D) 3 (G := True) (fr' := (24, [some (.ref 61), some (.int x1), some (.int x2), some (.int x3), some (.int x4), some (.int (x5 + (1 : Int32))), none], [], 0, 0)) (M' := (I, J, sm_rf t d)) rfl trivial ?_
            exact (hk24 _ _ _ _ _ _ h)
theorem G_Mo_bargain_24 {X : Nat × (Nat → Int32)} {t d D : Nat} {Q : sm_Q} {J : sm_MJ} {k18 : Int32 → Int32 → Int32 → Int32 → sm_MI → Option (Int32 × sm_MI)} {rz : Int32} {Iz : sm_MI}
    (hD : 5 ≤ D) (hQ : Q (.inl (some (.int rz))) (Iz, J, sm_rf t d)) (hk18 : ∀ (x1 : Int32) (x2 : Int32) (x3 : Int32) (x4 : Int32) (I : sm_MI), k18 x1 x2 x3 x4 I = some (rz, Iz) → sm_W sm_sh X (sm_C sm_sh X sm_P D) me_244 Q (18, [some (.ref 61), some (.int x1), some (.int x2), some (.int x3), some (.int x4), none, none], [], 0, 0) (I, J, sm_rf t d)) : ∀ (n : Nat) (x1 : Int32) (x2 : Int32) (x3 : Int32) (x4 : Int32) (x5 : Int32) (I : sm_MI), F_Mo_bargain_24 k18 n x1 x2 x3 x4 x5 I = some (rz, Iz) → sm_W sm_sh X (sm_C sm_sh X sm_P D) me_244 Q (24, [some (.ref 61), some (.int x1), some (.int x2), some (.int x3), some (.int x4), some (.int x5), none], [], 0, 0) (I, J, sm_rf t d) := by
  intro n
  induction n with
  | zero => intro x1 x2 x3 x4 x5 I h; cases (show (none : Option (Int32 × sm_MI)) = some (rz, Iz) from h)
  | succ n ih => intro x1 x2 x3 x4 x5 I h; exact G_Mo_bargain_24B hD (show F_Mo_bargain_24B k18 (F_Mo_bargain_24 k18 n) x1 x2 x3 x4 x5 I = some (rz, Iz) from h) hQ hk18 ih
theorem G_Mo_bargain_18B {X : Nat × (Nat → Int32)} {t d D : Nat} {Q : sm_Q} {I : sm_MI} {J : sm_MJ} {k18 : Int32 → Int32 → Int32 → Int32 → sm_MI → Option (Int32 × sm_MI)} {x1 : Int32} {x2 : Int32} {x3 : Int32} {x4 : Int32} {rz : Int32} {Iz : sm_MI}
    (hD : 5 ≤ D) (h : F_Mo_bargain_18B k18 x1 x2 x3 x4 I = some (rz, Iz)) (hQ : Q (.inl (some (.int rz))) (Iz, J, sm_rf t d)) (hk18 : ∀ (x1 : Int32) (x2 : Int32) (x3 : Int32) (x4 : Int32) (I : sm_MI), k18 x1 x2 x3 x4 I = some (rz, Iz) → sm_W sm_sh X (sm_C sm_sh X sm_P D) me_244 Q (18, [some (.ref 61), some (.int x1), some (.int x2), some (.int x3), some (.int x4), none, none], [], 0, 0) (I, J, sm_rf t d)) : sm_W sm_sh X (sm_C sm_sh X sm_P D) me_244 Q (18, [some (.ref 61), some (.int x1), some (.int x2), some (.int x3), some (.int x4), none, none], [], 0, 0) (I, J, sm_rf t d) := by
  unfold F_Mo_bargain_18B at h
  refine sm_W.run (sm_C_mono D) 4 (G := True) (fr' := (if decide ((I 61 1) ≤ x4) = true then 81 else 22, [some (.ref 61), some (.int x1), some (.int x2), some (.int x3), some (.int x4), none, none], [], 0, 0)) (M' := (I, J, sm_rf t d)) rfl trivial (sm_W.iteD h (fun hc h => ?_) (fun hc h => ?_))
  · refine sm_W.run (sm_C_mono D) 1 (G := True) (fr' := (82, [some (.ref 61), some (.int x1), some (.int x2), some (.int x3), some (.int x4), none, none], [.int x2], 0, 0)) (M' := (I, J, sm_rf t d)) rfl trivial ?_
    cases h
    exact sm_W.ret (sm_C_mono D) rfl hQ
  · refine sm_W.run (sm_C_mono D) 2 (G := True) (fr' := (24, [some (.ref 61), some (.int x1), some (.int x2), some (.int x3), some (.int x4), some (.int (0 : Int32)), none], [], 0, 0)) (M' := (I, J, sm_rf t d)) rfl trivial ?_
    exact (G_Mo_bargain_24 hD hQ hk18 sd_fu _ _ _ _ _ _ h)
theorem G_Mo_bargain_18 {X : Nat × (Nat → Int32)} {t d D : Nat} {Q : sm_Q} {J : sm_MJ} {rz : Int32} {Iz : sm_MI}
    (hD : 5 ≤ D) (hQ : Q (.inl (some (.int rz))) (Iz, J, sm_rf t d))  : ∀ (n : Nat) (x1 : Int32) (x2 : Int32) (x3 : Int32) (x4 : Int32) (I : sm_MI), F_Mo_bargain_18 n x1 x2 x3 x4 I = some (rz, Iz) → sm_W sm_sh X (sm_C sm_sh X sm_P D) me_244 Q (18, [some (.ref 61), some (.int x1), some (.int x2), some (.int x3), some (.int x4), none, none], [], 0, 0) (I, J, sm_rf t d) := by
  intro n
  induction n with
  | zero => intro x1 x2 x3 x4 I h; cases (show (none : Option (Int32 × sm_MI)) = some (rz, Iz) from h)
  | succ n ih => intro x1 x2 x3 x4 I h; exact G_Mo_bargain_18B hD (show F_Mo_bargain_18B (F_Mo_bargain_18 n) x1 x2 x3 x4 I = some (rz, Iz) from h) hQ  ih
theorem G_Mo_bargain {X : Nat × (Nat → Int32)} {t d D : Nat} {Q : sm_Q} {I : sm_MI} {J : sm_MJ} {rz : Int32} {Iz : sm_MI}
    (hD : 5 ≤ D) (h : F_Mo_bargain I = some (rz, Iz)) (hQ : Q (.inl (some (.int rz))) (Iz, J, sm_rf t d))  : sm_W sm_sh X (sm_C sm_sh X sm_P D) me_244 Q (0, [some (.ref 61), none, none, none, none, none, none], [], 0, 0) (I, J, sm_rf t d) := by
  unfold F_Mo_bargain at h
  refine sm_W.runL (sm_C_mono D) 3 (G := True) (e := (sd_up I 61 0 (0 : Int32))) (fr' := fun _ => (3, [some (.ref 61), none, none, none, none, none, none], [], 0, 0)) (M' := fun I1 => (I1, J, sm_rf t d)) rfl h trivial (fun I1 h => ?_)
  refine sm_W.run (sm_C_mono D) 4 (G := True) (fr' := (7, [some (.ref 61), none, none, none, none, none, none], [.int (0 : Int32), .ref 86, .ref 61], 0, 0)) (M' := (I1, J, sm_rf t d)) rfl trivial ?_
  obtain ⟨r2, hc, h⟩ := sd_q1_go h
  refine sm_W.cal (sm_C_mono D) (y := 196) (as := [.ref 61, .ref 86, .int (0 : Int32)]) (fr' := (8, [some (.ref 61), none, none, none, none, none, none], [], 0, 0)) rfl (T_Mo_areSo (by omega) (by decide) hc ?_)
  show sm_W sm_sh X (sm_C sm_sh X sm_P D) me_244 Q (8, [some (.ref 61), none, none, none, none, none, none], [.int r2], 0, 0) (I1, J, sm_rf t d)
  refine sm_W.run (sm_C_mono D) 5 (G := True) (fr' := (13, [some (.ref 61), some (.int r2), some (.int (-1 : Int32)), none, none, none, none], [.int r2, .ref 61], 0, 0)) (M' := (I1, J, sm_rf t d)) rfl trivial ?_
  obtain ⟨r3, hc, h⟩ := sd_q1_go h
  refine sm_W.cal (sm_C_mono D) (y := 202) (as := [.ref 61, .int r2]) (fr' := (14, [some (.ref 61), some (.int r2), some (.int (-1 : Int32)), none, none, none, none], [], 0, 0)) rfl (T_Mo_sungBy (by omega) hc ?_)
  show sm_W sm_sh X (sm_C sm_sh X sm_P D) me_244 Q (14, [some (.ref 61), some (.int r2), some (.int (-1 : Int32)), none, none, none, none], [.int r3], 0, 0) (I1, J, sm_rf t d)
  obtain ⟨r4, hc, h⟩ := sd_q1_go h
  refine sm_W.cal (sm_C_mono D) (y := 161) (as := [.int r3]) (fr' := (15, [some (.ref 61), some (.int r2), some (.int (-1 : Int32)), none, none, none, none], [], 0, 0)) rfl (T_Mo_bits (by omega) hc ?_)
  show sm_W sm_sh X (sm_C sm_sh X sm_P D) me_244 Q (15, [some (.ref 61), some (.int r2), some (.int (-1 : Int32)), none, none, none, none], [.int r4], 0, 0) (I1, J, sm_rf t d)
  refine sm_W.run (sm_C_mono D) 3 (G := True) (fr' := (18, [some (.ref 61), some (.int r2), some (.int (-1 : Int32)), some (.int r4), some (.int (0 : Int32)), none, none], [], 0, 0)) (M' := (I1, J, sm_rf t d)) rfl trivial ?_
  exact (G_Mo_bargain_18 hD hQ sd_fu _ _ _ _ _ h)
theorem T_Mo_bargain {X : Nat × (Nat → Int32)} {t d D : Nat} {Q : sm_Q} {I : sm_MI} {J : sm_MJ} {rz : Int32} {Iz : sm_MI}
    (hD : 6 ≤ D) (h : F_Mo_bargain I = some (rz, Iz)) (hQ : Q (.inl (some (.int rz))) (Iz, J, sm_rf t d)) : sm_C sm_sh X sm_P D 244 [.ref 61] (I, J, sm_rf t d) Q := by
  cases D with
  | zero => omega
  | succ D => exact sm_C.of (me := me_244) (L := [some (.ref 61), none, none, none, none, none, none]) rfl rfl rfl (sm_W.forget (L' := [some (.ref 61), none, none, none, none, none, none]) ⟨rfl, trivial⟩ (G_Mo_bargain (by omega) h hQ))
-- 245 Mo_casts
noncomputable def F_Mo_casts_62B (k29 : Int32 → Int32 → Int64 → Int32 → sm_MI → Option (Int64 × sm_MI)) (k62 : Int32 → Int32 → Int64 → Int32 → Int32 → sm_MI → Option (Int64 × sm_MI)) (x1 : Int32) (x2 : Int32) (x3 : Int64) (x5 : Int32) (x7 : Int32) (I : sm_MI) : Option (Int64 × sm_MI) :=
  sd_gu (sm_in x5 20 = true) <|
  if (I 67 (Int32.toNatClampNeg x5)) < x7 then
    k29 x1 x2 x3 (x5 + (1 : Int32)) I
  else
    sd_gu (¬ (Int32.toInt64 x7) = 0) <|
    sd_lt (x3 / (Int32.toInt64 x7)) fun a3 =>
    k62 x1 x2 a3 x5 (x7 + (1 : Int32)) I
noncomputable def F_Mo_casts_62 (k29 : Int32 → Int32 → Int64 → Int32 → sm_MI → Option (Int64 × sm_MI)) (n : Nat) : Int32 → Int32 → Int64 → Int32 → Int32 → sm_MI → Option (Int64 × sm_MI) :=
  sd_fix (fun k x1 x2 x3 x5 x7 I => F_Mo_casts_62B k29 k x1 x2 x3 x5 x7 I) (fun _ _ _ _ _ _ => none) n
noncomputable def F_Mo_casts_45B (k29 : Int32 → Int32 → Int64 → Int32 → sm_MI → Option (Int64 × sm_MI)) (k45 : Int32 → Int32 → Int64 → Int32 → Int32 → Int32 → sm_MI → Option (Int64 × sm_MI)) (x1 : Int32) (x2 : Int32) (x3 : Int64) (x5 : Int32) (x6 : Int32) (x7 : Int32) (I : sm_MI) : Option (Int64 × sm_MI) :=
  sd_gu (sm_in x5 20 = true) <|
  if (I 67 (Int32.toNatClampNeg x5)) ≤ x7 then
    F_Mo_casts_62 k29 sd_fu x1 x2 x3 x5 (2 : Int32) I
  else
    sd_lt (x3 * (Int32.toInt64 (x6 - x7))) fun a2 =>
    k45 x1 x2 a2 x5 x6 (x7 + (1 : Int32)) I
noncomputable def F_Mo_casts_45 (k29 : Int32 → Int32 → Int64 → Int32 → sm_MI → Option (Int64 × sm_MI)) (n : Nat) : Int32 → Int32 → Int64 → Int32 → Int32 → Int32 → sm_MI → Option (Int64 × sm_MI) :=
  sd_fix (fun k x1 x2 x3 x5 x6 x7 I => F_Mo_casts_45B k29 k x1 x2 x3 x5 x6 x7 I) (fun _ _ _ _ _ _ _ => none) n
noncomputable def F_Mo_casts_29B (k29 : Int32 → Int32 → Int64 → Int32 → sm_MI → Option (Int64 × sm_MI)) (x1 : Int32) (x2 : Int32) (x3 : Int64) (x5 : Int32) (I : sm_MI) : Option (Int64 × sm_MI) :=
  if (((4 : Int32) * x1) + (4 : Int32)) ≤ x5 then
    some (x3, I)
  else
    sd_q1 (F_Mo_ableOf x2 x5 (0 : Int32) I) fun r1 =>
    sd_q1 (F_Mo_bits r1) fun r2 =>
    F_Mo_casts_45 k29 sd_fu x1 x2 x3 x5 r2 (0 : Int32) I
noncomputable def F_Mo_casts_29  (n : Nat) : Int32 → Int32 → Int64 → Int32 → sm_MI → Option (Int64 × sm_MI) :=
  sd_fix (fun k x1 x2 x3 x5 I => F_Mo_casts_29B k x1 x2 x3 x5 I) (fun _ _ _ _ _ => none) n
noncomputable def F_Mo_casts (x1 : Int32) (I : sm_MI) : Option (Int64 × sm_MI) :=
  sd_lt (sd_up I 61 0 (0 : Int32)) fun I1 =>
  sd_q2 (F_Mo_isPiece x1 I1) fun r2 I3 =>
  if ¬ r2 = 0 then
    sd_q1 (F_Mo_areSo 86 (0 : Int32) I3) fun r4 =>
    sd_q1 (F_Mo_canBeSung r4 x1 (0 : Int32) I3) fun r5 =>
    if ¬ r5 = 0 then
      sd_lt ((4 : Int32) * x1) fun a6 =>
      F_Mo_casts_29 sd_fu x1 r4 (1 : Int64) a6 I3
    else
      some ((0 : Int64), I3)
  else
    some ((0 : Int64), I3)
theorem G_Mo_casts_62B {X : Nat × (Nat → Int32)} {t d D : Nat} {Q : sm_Q} {I : sm_MI} {J : sm_MJ} {k29 : Int32 → Int32 → Int64 → Int32 → sm_MI → Option (Int64 × sm_MI)} {k62 : Int32 → Int32 → Int64 → Int32 → Int32 → sm_MI → Option (Int64 × sm_MI)} {x1 : Int32} {x2 : Int32} {x3 : Int64} {x5 : Int32} {x7 : Int32} {rz : Int64} {Iz : sm_MI}
    (hD : 4 ≤ D) (h : F_Mo_casts_62B k29 k62 x1 x2 x3 x5 x7 I = some (rz, Iz)) (hQ : Q (.inl (some (.long rz))) (Iz, J, sm_rf t d)) (hk29 : ∀ (x1 : Int32) (x2 : Int32) (x3 : Int64) (x5 : Int32) (I : sm_MI), k29 x1 x2 x3 x5 I = some (rz, Iz) → sm_W sm_sh X (sm_C sm_sh X sm_P D) me_245 Q (29, [some (.ref 61), some (.int x1), some (.int x2), some (.long x3), none, some (.int x5), none, none], [], 0, 0) (I, J, sm_rf t d)) (hk62 : ∀ (x1 : Int32) (x2 : Int32) (x3 : Int64) (x5 : Int32) (x7 : Int32) (I : sm_MI), k62 x1 x2 x3 x5 x7 I = some (rz, Iz) → sm_W sm_sh X (sm_C sm_sh X sm_P D) me_245 Q (62, [some (.ref 61), some (.int x1), some (.int x2), some (.long x3), none, some (.int x5), none, some (.int x7)], [], 0, 0) (I, J, sm_rf t d)) : sm_W sm_sh X (sm_C sm_sh X sm_P D) me_245 Q (62, [some (.ref 61), some (.int x1), some (.int x2), some (.long x3), none, some (.int x5), none, some (.int x7)], [], 0, 0) (I, J, sm_rf t d) := by
  unfold F_Mo_casts_62B at h
  obtain ⟨g1, h⟩ := sd_gu_go h
  refine sm_W.run (sm_C_mono D) 6 (G := sm_in x5 20 = true ∧ True) (fr' := (if decide ((I 67 (Int32.toNatClampNeg x5)) < x7) = true then 75 else 68, [some (.ref 61), some (.int x1), some (.int x2), some (.long x3), none, some (.int x5), none, some (.int x7)], [], 0, 0)) (M' := (I, J, sm_rf t d)) rfl ⟨g1, trivial⟩ (sm_W.iteD h (fun hc h => ?_) (fun hc h => ?_))
  · refine sm_W.run (sm_C_mono D) 2 (G := True) (fr' := (29, [some (.ref 61), some (.int x1), some (.int x2), some (.long x3), none, some (.int (x5 + (1 : Int32))), none, some (.int x7)], [], 0, 0)) (M' := (I, J, sm_rf t d)) rfl trivial ?_
    exact sm_W.forget (L' := [some (.ref 61), some (.int x1), some (.int x2), some (.long x3), none, some (.int (x5 + (1 : Int32))), none, none]) ⟨rfl, ⟨rfl, ⟨rfl, ⟨rfl, ⟨rfl, trivial⟩⟩⟩⟩⟩ (hk29 _ _ _ _ _ h)
  · obtain ⟨g2, h⟩ := sd_gu_go h
    refine sm_W.runL (sm_C_mono D) 5 (G := ¬ (Int32.toInt64 x7) = 0 ∧ True) (e := (x3 / (Int32.toInt64 x7))) (fr' := fun a3 => (73, [some (.ref 61), some (.int x1), some (.int x2), some (.long a3), none, some (.int x5), none, some (.int x7)], [], 0, 0)) (M' := fun _ => (I, J, sm_rf t d)) rfl h ⟨g2, trivial⟩ (fun a3 h => ?_)
    refine sm_W.run (sm_C_mono D) 2 (G := True) (fr' := (62, [some (.ref 61), some (.int x1), some (.int x2), some (.long a3), none, some (.int x5), none, some (.int (x7 + (1 : Int32)))], [], 0, 0)) (M' := (I, J, sm_rf t d)) rfl trivial ?_
    exact (hk62 _ _ _ _ _ _ h)
theorem G_Mo_casts_62 {X : Nat × (Nat → Int32)} {t d D : Nat} {Q : sm_Q} {J : sm_MJ} {k29 : Int32 → Int32 → Int64 → Int32 → sm_MI → Option (Int64 × sm_MI)} {rz : Int64} {Iz : sm_MI}
    (hD : 4 ≤ D) (hQ : Q (.inl (some (.long rz))) (Iz, J, sm_rf t d)) (hk29 : ∀ (x1 : Int32) (x2 : Int32) (x3 : Int64) (x5 : Int32) (I : sm_MI), k29 x1 x2 x3 x5 I = some (rz, Iz) → sm_W sm_sh X (sm_C sm_sh X sm_P D) me_245 Q (29, [some (.ref 61), some (.int x1), some (.int x2), some (.long x3), none, some (.int x5), none, none], [], 0, 0) (I, J, sm_rf t d)) : ∀ (n : Nat) (x1 : Int32) (x2 : Int32) (x3 : Int64) (x5 : Int32) (x7 : Int32) (I : sm_MI), F_Mo_casts_62 k29 n x1 x2 x3 x5 x7 I = some (rz, Iz) → sm_W sm_sh X (sm_C sm_sh X sm_P D) me_245 Q (62, [some (.ref 61), some (.int x1), some (.int x2), some (.long x3), none, some (.int x5), none, some (.int x7)], [], 0, 0) (I, J, sm_rf t d) := by
  intro n
  induction n with
  | zero => intro x1 x2 x3 x5 x7 I h; cases (show (none : Option (Int64 × sm_MI)) = some (rz, Iz) from h)
  | succ n ih => intro x1 x2 x3 x5 x7 I h; exact G_Mo_casts_62B hD (show F_Mo_casts_62B k29 (F_Mo_casts_62 k29 n) x1 x2 x3 x5 x7 I = some (rz, Iz) from h) hQ hk29 ih
theorem G_Mo_casts_45B {X : Nat × (Nat → Int32)} {t d D : Nat} {Q : sm_Q} {I : sm_MI} {J : sm_MJ} {k29 : Int32 → Int32 → Int64 → Int32 → sm_MI → Option (Int64 × sm_MI)} {k45 : Int32 → Int32 → Int64 → Int32 → Int32 → Int32 → sm_MI → Option (Int64 × sm_MI)} {x1 : Int32} {x2 : Int32} {x3 : Int64} {x5 : Int32} {x6 : Int32} {x7 : Int32} {rz : Int64} {Iz : sm_MI}
    (hD : 4 ≤ D) (h : F_Mo_casts_45B k29 k45 x1 x2 x3 x5 x6 x7 I = some (rz, Iz)) (hQ : Q (.inl (some (.long rz))) (Iz, J, sm_rf t d)) (hk29 : ∀ (x1 : Int32) (x2 : Int32) (x3 : Int64) (x5 : Int32) (I : sm_MI), k29 x1 x2 x3 x5 I = some (rz, Iz) → sm_W sm_sh X (sm_C sm_sh X sm_P D) me_245 Q (29, [some (.ref 61), some (.int x1), some (.int x2), some (.long x3), none, some (.int x5), none, none], [], 0, 0) (I, J, sm_rf t d)) (hk45 : ∀ (x1 : Int32) (x2 : Int32) (x3 : Int64) (x5 : Int32) (x6 : Int32) (x7 : Int32) (I : sm_MI), k45 x1 x2 x3 x5 x6 x7 I = some (rz, Iz) → sm_W sm_sh X (sm_C sm_sh X sm_P D) me_245 Q (45, [some (.ref 61), some (.int x1), some (.int x2), some (.long x3), none, some (.int x5), some (.int x6), some (.int x7)], [], 0, 0) (I, J, sm_rf t d)) : sm_W sm_sh X (sm_C sm_sh X sm_P D) me_245 Q (45, [some (.ref 61), some (.int x1), some (.int x2), some (.long x3), none, some (.int x5), some (.int x6), some (.int x7)], [], 0, 0) (I, J, sm_rf t d) := by
  unfold F_Mo_casts_45B at h
  obtain ⟨g1, h⟩ := sd_gu_go h
  refine sm_W.run (sm_C_mono D) 6 (G := sm_in x5 20 = true ∧ True) (fr' := (if decide ((I 67 (Int32.toNatClampNeg x5)) ≤ x7) = true then 60 else 51, [some (.ref 61), some (.int x1), some (.int x2), some (.long x3), none, some (.int x5), some (.int x6), some (.int x7)], [], 0, 0)) (M' := (I, J, sm_rf t d)) rfl ⟨g1, trivial⟩ (sm_W.iteD h (fun hc h => ?_) (fun hc h => ?_))
  · refine sm_W.run (sm_C_mono D) 2 (G := True) (fr' := (62, [some (.ref 61), some (.int x1), some (.int x2), some (.long x3), none, some (.int x5), some (.int x6), some (.int (2 : Int32))], [], 0, 0)) (M' := (I, J, sm_rf t d)) rfl trivial ?_
    exact sm_W.forget (L' := [some (.ref 61), some (.int x1), some (.int x2), some (.long x3), none, some (.int x5), none, some (.int (2 : Int32))]) ⟨rfl, ⟨rfl, ⟨rfl, ⟨rfl, ⟨rfl, ⟨rfl, trivial⟩⟩⟩⟩⟩⟩ (G_Mo_casts_62 hD hQ hk29 sd_fu _ _ _ _ _ _ h)
  · refine sm_W.runL (sm_C_mono D) 7 (G := True) (e := (x3 * (Int32.toInt64 (x6 - x7)))) (fr' := fun a2 => (58, [some (.ref 61), some (.int x1), some (.int x2), some (.long a2), none, some (.int x5), some (.int x6), some (.int x7)], [], 0, 0)) (M' := fun _ => (I, J, sm_rf t d)) rfl h trivial (fun a2 h => ?_)
    refine sm_W.run (sm_C_mono D) 2 (G := True) (fr' := (45, [some (.ref 61), some (.int x1), some (.int x2), some (.long a2), none, some (.int x5), some (.int x6), some (.int (x7 + (1 : Int32)))], [], 0, 0)) (M' := (I, J, sm_rf t d)) rfl trivial ?_
    exact (hk45 _ _ _ _ _ _ _ h)
theorem G_Mo_casts_45 {X : Nat × (Nat → Int32)} {t d D : Nat} {Q : sm_Q} {J : sm_MJ} {k29 : Int32 → Int32 → Int64 → Int32 → sm_MI → Option (Int64 × sm_MI)} {rz : Int64} {Iz : sm_MI}
    (hD : 4 ≤ D) (hQ : Q (.inl (some (.long rz))) (Iz, J, sm_rf t d)) (hk29 : ∀ (x1 : Int32) (x2 : Int32) (x3 : Int64) (x5 : Int32) (I : sm_MI), k29 x1 x2 x3 x5 I = some (rz, Iz) → sm_W sm_sh X (sm_C sm_sh X sm_P D) me_245 Q (29, [some (.ref 61), some (.int x1), some (.int x2), some (.long x3), none, some (.int x5), none, none], [], 0, 0) (I, J, sm_rf t d)) : ∀ (n : Nat) (x1 : Int32) (x2 : Int32) (x3 : Int64) (x5 : Int32) (x6 : Int32) (x7 : Int32) (I : sm_MI), F_Mo_casts_45 k29 n x1 x2 x3 x5 x6 x7 I = some (rz, Iz) → sm_W sm_sh X (sm_C sm_sh X sm_P D) me_245 Q (45, [some (.ref 61), some (.int x1), some (.int x2), some (.long x3), none, some (.int x5), some (.int x6), some (.int x7)], [], 0, 0) (I, J, sm_rf t d) := by
  intro n
  induction n with
  | zero => intro x1 x2 x3 x5 x6 x7 I h; cases (show (none : Option (Int64 × sm_MI)) = some (rz, Iz) from h)
  | succ n ih => intro x1 x2 x3 x5 x6 x7 I h; exact G_Mo_casts_45B hD (show F_Mo_casts_45B k29 (F_Mo_casts_45 k29 n) x1 x2 x3 x5 x6 x7 I = some (rz, Iz) from h) hQ hk29 ih
theorem G_Mo_casts_29B {X : Nat × (Nat → Int32)} {t d D : Nat} {Q : sm_Q} {I : sm_MI} {J : sm_MJ} {k29 : Int32 → Int32 → Int64 → Int32 → sm_MI → Option (Int64 × sm_MI)} {x1 : Int32} {x2 : Int32} {x3 : Int64} {x5 : Int32} {rz : Int64} {Iz : sm_MI}
    (hD : 4 ≤ D) (h : F_Mo_casts_29B k29 x1 x2 x3 x5 I = some (rz, Iz)) (hQ : Q (.inl (some (.long rz))) (Iz, J, sm_rf t d)) (hk29 : ∀ (x1 : Int32) (x2 : Int32) (x3 : Int64) (x5 : Int32) (I : sm_MI), k29 x1 x2 x3 x5 I = some (rz, Iz) → sm_W sm_sh X (sm_C sm_sh X sm_P D) me_245 Q (29, [some (.ref 61), some (.int x1), some (.int x2), some (.long x3), none, some (.int x5), none, none], [], 0, 0) (I, J, sm_rf t d)) : sm_W sm_sh X (sm_C sm_sh X sm_P D) me_245 Q (29, [some (.ref 61), some (.int x1), some (.int x2), some (.long x3), none, some (.int x5), none, none], [], 0, 0) (I, J, sm_rf t d) := by
  unfold F_Mo_casts_29B at h
  refine sm_W.run (sm_C_mono D) 7 (G := True) (fr' := (if decide ((((4 : Int32) * x1) + (4 : Int32)) ≤ x5) = true then 77 else 36, [some (.ref 61), some (.int x1), some (.int x2), some (.long x3), none, some (.int x5), none, none], [], 0, 0)) (M' := (I, J, sm_rf t d)) rfl trivial (sm_W.iteD h (fun hc h => ?_) (fun hc h => ?_))
  · refine sm_W.run (sm_C_mono D) 1 (G := True) (fr' := (78, [some (.ref 61), some (.int x1), some (.int x2), some (.long x3), none, some (.int x5), none, none], [.long x3], 0, 0)) (M' := (I, J, sm_rf t d)) rfl trivial ?_
    cases h
    exact sm_W.ret (sm_C_mono D) rfl hQ
  · refine sm_W.run (sm_C_mono D) 4 (G := True) (fr' := (40, [some (.ref 61), some (.int x1), some (.int x2), some (.long x3), none, some (.int x5), none, none], [.int (0 : Int32), .int x5, .int x2, .ref 61], 0, 0)) (M' := (I, J, sm_rf t d)) rfl trivial ?_
    obtain ⟨r1, hc, h⟩ := sd_q1_go h
    refine sm_W.cal (sm_C_mono D) (y := 199) (as := [.ref 61, .int x2, .int x5, .int (0 : Int32)]) (fr' := (41, [some (.ref 61), some (.int x1), some (.int x2), some (.long x3), none, some (.int x5), none, none], [], 0, 0)) rfl (T_Mo_ableOf (by omega) hc ?_)
    show sm_W sm_sh X (sm_C sm_sh X sm_P D) me_245 Q (41, [some (.ref 61), some (.int x1), some (.int x2), some (.long x3), none, some (.int x5), none, none], [.int r1], 0, 0) (I, J, sm_rf t d)
    obtain ⟨r2, hc, h⟩ := sd_q1_go h
    refine sm_W.cal (sm_C_mono D) (y := 161) (as := [.int r1]) (fr' := (42, [some (.ref 61), some (.int x1), some (.int x2), some (.long x3), none, some (.int x5), none, none], [], 0, 0)) rfl (T_Mo_bits (by omega) hc ?_)
    show sm_W sm_sh X (sm_C sm_sh X sm_P D) me_245 Q (42, [some (.ref 61), some (.int x1), some (.int x2), some (.long x3), none, some (.int x5), none, none], [.int r2], 0, 0) (I, J, sm_rf t d)
    refine sm_W.run (sm_C_mono D) 3 (G := True) (fr' := (45, [some (.ref 61), some (.int x1), some (.int x2), some (.long x3), none, some (.int x5), some (.int r2), some (.int (0 : Int32))], [], 0, 0)) (M' := (I, J, sm_rf t d)) rfl trivial ?_
    exact (G_Mo_casts_45 hD hQ hk29 sd_fu _ _ _ _ _ _ _ h)
theorem G_Mo_casts_29 {X : Nat × (Nat → Int32)} {t d D : Nat} {Q : sm_Q} {J : sm_MJ} {rz : Int64} {Iz : sm_MI}
    (hD : 4 ≤ D) (hQ : Q (.inl (some (.long rz))) (Iz, J, sm_rf t d))  : ∀ (n : Nat) (x1 : Int32) (x2 : Int32) (x3 : Int64) (x5 : Int32) (I : sm_MI), F_Mo_casts_29 n x1 x2 x3 x5 I = some (rz, Iz) → sm_W sm_sh X (sm_C sm_sh X sm_P D) me_245 Q (29, [some (.ref 61), some (.int x1), some (.int x2), some (.long x3), none, some (.int x5), none, none], [], 0, 0) (I, J, sm_rf t d) := by
  intro n
  induction n with
  | zero => intro x1 x2 x3 x5 I h; cases (show (none : Option (Int64 × sm_MI)) = some (rz, Iz) from h)
  | succ n ih => intro x1 x2 x3 x5 I h; exact G_Mo_casts_29B hD (show F_Mo_casts_29B (F_Mo_casts_29 n) x1 x2 x3 x5 I = some (rz, Iz) from h) hQ  ih
theorem G_Mo_casts {X : Nat × (Nat → Int32)} {t d D : Nat} {Q : sm_Q} {I : sm_MI} {J : sm_MJ} {x1 : Int32} {rz : Int64} {Iz : sm_MI}
    (hD : 4 ≤ D) (h : F_Mo_casts x1 I = some (rz, Iz)) (hQ : Q (.inl (some (.long rz))) (Iz, J, sm_rf t d))  : sm_W sm_sh X (sm_C sm_sh X sm_P D) me_245 Q (0, [some (.ref 61), some (.int x1), none, none, none, none, none, none], [], 0, 0) (I, J, sm_rf t d) := by
  unfold F_Mo_casts at h
  refine sm_W.runL (sm_C_mono D) 3 (G := True) (e := (sd_up I 61 0 (0 : Int32))) (fr' := fun _ => (3, [some (.ref 61), some (.int x1), none, none, none, none, none, none], [], 0, 0)) (M' := fun I1 => (I1, J, sm_rf t d)) rfl h trivial (fun I1 h => ?_)
  refine sm_W.run (sm_C_mono D) 2 (G := True) (fr' := (5, [some (.ref 61), some (.int x1), none, none, none, none, none, none], [.int x1, .ref 61], 0, 0)) (M' := (I1, J, sm_rf t d)) rfl trivial ?_
  obtain ⟨r2, I3, hc, h⟩ := sd_q2_go h
  refine sm_W.cal (sm_C_mono D) (y := 205) (as := [.ref 61, .int x1]) (fr' := (6, [some (.ref 61), some (.int x1), none, none, none, none, none, none], [], 0, 0)) rfl (T_Mo_isPiece (by omega) hc ?_)
  show sm_W sm_sh X (sm_C sm_sh X sm_P D) me_245 Q (6, [some (.ref 61), some (.int x1), none, none, none, none, none, none], [.int r2], 0, 0) (I3, J, sm_rf t d)
  refine sm_W.run (sm_C_mono D) 1 (G := True) (fr' := (if decide (¬ r2 = 0) = true then 9 else 7, [some (.ref 61), some (.int x1), none, none, none, none, none, none], [], 0, 0)) (M' := (I3, J, sm_rf t d)) rfl trivial (sm_W.iteD h (fun hc h => ?_) (fun hc h => ?_))
  · refine sm_W.run (sm_C_mono D) 4 (G := True) (fr' := (13, [some (.ref 61), some (.int x1), none, none, none, none, none, none], [.int (0 : Int32), .ref 86, .ref 61], 0, 0)) (M' := (I3, J, sm_rf t d)) rfl trivial ?_
    obtain ⟨r4, hc, h⟩ := sd_q1_go h
    refine sm_W.cal (sm_C_mono D) (y := 196) (as := [.ref 61, .ref 86, .int (0 : Int32)]) (fr' := (14, [some (.ref 61), some (.int x1), none, none, none, none, none, none], [], 0, 0)) rfl (T_Mo_areSo (by omega) (by decide) hc ?_)
    show sm_W sm_sh X (sm_C sm_sh X sm_P D) me_245 Q (14, [some (.ref 61), some (.int x1), none, none, none, none, none, none], [.int r4], 0, 0) (I3, J, sm_rf t d)
    refine sm_W.run (sm_C_mono D) 5 (G := True) (fr' := (19, [some (.ref 61), some (.int x1), some (.int r4), none, none, none, none, none], [.int (0 : Int32), .int x1, .int r4, .ref 61], 0, 0)) (M' := (I3, J, sm_rf t d)) rfl trivial ?_
    obtain ⟨r5, hc, h⟩ := sd_q1_go h
    refine sm_W.cal (sm_C_mono D) (y := 201) (as := [.ref 61, .int r4, .int x1, .int (0 : Int32)]) (fr' := (20, [some (.ref 61), some (.int x1), some (.int r4), none, none, none, none, none], [], 0, 0)) rfl (T_Mo_canBeSung (by omega) hc ?_)
    show sm_W sm_sh X (sm_C sm_sh X sm_P D) me_245 Q (20, [some (.ref 61), some (.int x1), some (.int r4), none, none, none, none, none], [.int r5], 0, 0) (I3, J, sm_rf t d)
    refine sm_W.run (sm_C_mono D) 1 (G := True) (fr' := (if decide (¬ r5 = 0) = true then 23 else 21, [some (.ref 61), some (.int x1), some (.int r4), none, none, none, none, none], [], 0, 0)) (M' := (I3, J, sm_rf t d)) rfl trivial (sm_W.iteD h (fun hc h => ?_) (fun hc h => ?_))
    · refine sm_W.runL (sm_C_mono D) 6 (G := True) (e := ((4 : Int32) * x1)) (fr' := fun a6 => (29, [some (.ref 61), some (.int x1), some (.int r4), some (.long (1 : Int64)), none, some (.int a6), none, none], [], 0, 0)) (M' := fun _ => (I3, J, sm_rf t d)) rfl h trivial (fun a6 h => ?_)
      exact (G_Mo_casts_29 hD hQ sd_fu _ _ _ _ _ h)
    · refine sm_W.run (sm_C_mono D) 1 (G := True) (fr' := (22, [some (.ref 61), some (.int x1), some (.int r4), none, none, none, none, none], [.long (0 : Int64)], 0, 0)) (M' := (I3, J, sm_rf t d)) rfl trivial ?_
      cases h
      exact sm_W.ret (sm_C_mono D) rfl hQ
  · refine sm_W.run (sm_C_mono D) 1 (G := True) (fr' := (8, [some (.ref 61), some (.int x1), none, none, none, none, none, none], [.long (0 : Int64)], 0, 0)) (M' := (I3, J, sm_rf t d)) rfl trivial ?_
    cases h
    exact sm_W.ret (sm_C_mono D) rfl hQ
theorem T_Mo_casts {X : Nat × (Nat → Int32)} {t d D : Nat} {Q : sm_Q} {I : sm_MI} {J : sm_MJ} {x1 : Int32} {rz : Int64} {Iz : sm_MI}
    (hD : 5 ≤ D) (h : F_Mo_casts x1 I = some (rz, Iz)) (hQ : Q (.inl (some (.long rz))) (Iz, J, sm_rf t d)) : sm_C sm_sh X sm_P D 245 [.ref 61, .int x1] (I, J, sm_rf t d) Q := by
  cases D with
  | zero => omega
  | succ D => exact sm_C.of (me := me_245) (L := [some (.ref 61), some (.int x1), none, none, none, none, none, none]) rfl rfl rfl (sm_W.forget (L' := [some (.ref 61), some (.int x1), none, none, none, none, none, none]) ⟨rfl, ⟨rfl, trivial⟩⟩ (G_Mo_casts (by omega) h hQ))
-- 246 Mo_holds
noncomputable def F_Mo_holds (x1 : Int32) (I : sm_MI) : Option (Int32 × sm_MI) :=
  sd_lt (sd_up I 61 0 (0 : Int32)) fun I1 =>
  sd_q2 (F_Mo_isWhat x1 (1 : Int32) I1) fun r2 I3 =>
  if r2 = 0 then
    some ((0 : Int32), I3)
  else
    sd_q2 (F_Mo_isHolding 86 x1 I3) fun r4 I5 =>
    if r4 = 0 then
      some ((0 : Int32), I5)
    else
      some ((1 : Int32), I5)
theorem G_Mo_holds {X : Nat × (Nat → Int32)} {t d D : Nat} {Q : sm_Q} {I : sm_MI} {J : sm_MJ} {x1 : Int32} {rz : Int32} {Iz : sm_MI}
    (hD : 6 ≤ D) (h : F_Mo_holds x1 I = some (rz, Iz)) (hQ : Q (.inl (some (.int rz))) (Iz, J, sm_rf t d))  : sm_W sm_sh X (sm_C sm_sh X sm_P D) me_246 Q (0, [some (.ref 61), some (.int x1)], [], 0, 0) (I, J, sm_rf t d) := by
  unfold F_Mo_holds at h
  refine sm_W.runL (sm_C_mono D) 3 (G := True) (e := (sd_up I 61 0 (0 : Int32))) (fr' := fun _ => (3, [some (.ref 61), some (.int x1)], [], 0, 0)) (M' := fun I1 => (I1, J, sm_rf t d)) rfl h trivial (fun I1 h => ?_)
  refine sm_W.run (sm_C_mono D) 3 (G := True) (fr' := (6, [some (.ref 61), some (.int x1)], [.int (1 : Int32), .int x1, .ref 61], 0, 0)) (M' := (I1, J, sm_rf t d)) rfl trivial ?_
  obtain ⟨r2, I3, hc, h⟩ := sd_q2_go h
  refine sm_W.cal (sm_C_mono D) (y := 206) (as := [.ref 61, .int x1, .int (1 : Int32)]) (fr' := (7, [some (.ref 61), some (.int x1)], [], 0, 0)) rfl (T_Mo_isWhat (by omega) hc ?_)
  show sm_W sm_sh X (sm_C sm_sh X sm_P D) me_246 Q (7, [some (.ref 61), some (.int x1)], [.int r2], 0, 0) (I3, J, sm_rf t d)
  refine sm_W.run (sm_C_mono D) 1 (G := True) (fr' := (if decide (r2 = 0) = true then 16 else 8, [some (.ref 61), some (.int x1)], [], 0, 0)) (M' := (I3, J, sm_rf t d)) rfl trivial (sm_W.iteD h (fun hc h => ?_) (fun hc h => ?_))
  · refine sm_W.run (sm_C_mono D) 1 (G := True) (fr' := (17, [some (.ref 61), some (.int x1)], [.int (0 : Int32)], 0, 0)) (M' := (I3, J, sm_rf t d)) rfl trivial ?_
    cases h
    exact sm_W.ret (sm_C_mono D) rfl hQ
  · refine sm_W.run (sm_C_mono D) 4 (G := True) (fr' := (12, [some (.ref 61), some (.int x1)], [.int x1, .ref 86, .ref 61], 0, 0)) (M' := (I3, J, sm_rf t d)) rfl trivial ?_
    obtain ⟨r4, I5, hc, h⟩ := sd_q2_go h
    refine sm_W.cal (sm_C_mono D) (y := 213) (as := [.ref 61, .ref 86, .int x1]) (fr' := (13, [some (.ref 61), some (.int x1)], [], 0, 0)) rfl (T_Mo_isHolding (by omega) (by decide) hc ?_)
    show sm_W sm_sh X (sm_C sm_sh X sm_P D) me_246 Q (13, [some (.ref 61), some (.int x1)], [.int r4], 0, 0) (I5, J, sm_rf t d)
    refine sm_W.run (sm_C_mono D) 1 (G := True) (fr' := (if decide (r4 = 0) = true then 16 else 14, [some (.ref 61), some (.int x1)], [], 0, 0)) (M' := (I5, J, sm_rf t d)) rfl trivial (sm_W.iteD h (fun hc h => ?_) (fun hc h => ?_))
    · refine sm_W.run (sm_C_mono D) 1 (G := True) (fr' := (17, [some (.ref 61), some (.int x1)], [.int (0 : Int32)], 0, 0)) (M' := (I5, J, sm_rf t d)) rfl trivial ?_
      cases h
      exact sm_W.ret (sm_C_mono D) rfl hQ
    · refine sm_W.run (sm_C_mono D) 2 (G := True) (fr' := (17, [some (.ref 61), some (.int x1)], [.int (1 : Int32)], 0, 0)) (M' := (I5, J, sm_rf t d)) rfl trivial ?_
      cases h
      exact sm_W.ret (sm_C_mono D) rfl hQ
theorem T_Mo_holds {X : Nat × (Nat → Int32)} {t d D : Nat} {Q : sm_Q} {I : sm_MI} {J : sm_MJ} {x1 : Int32} {rz : Int32} {Iz : sm_MI}
    (hD : 7 ≤ D) (h : F_Mo_holds x1 I = some (rz, Iz)) (hQ : Q (.inl (some (.int rz))) (Iz, J, sm_rf t d)) : sm_C sm_sh X sm_P D 246 [.ref 61, .int x1] (I, J, sm_rf t d) Q := by
  cases D with
  | zero => omega
  | succ D => exact sm_C.of (me := me_246) (L := [some (.ref 61), some (.int x1)]) rfl rfl rfl (sm_W.forget (L' := [some (.ref 61), some (.int x1)]) ⟨rfl, ⟨rfl, trivial⟩⟩ (G_Mo_holds (by omega) h hQ))
-- 247 Mo_aimed
noncomputable def F_Mo_aimed (x1 : Int32) (I : sm_MI) : Option (Int32 × sm_MI) :=
  sd_lt (sd_up I 61 0 (0 : Int32)) fun I1 =>
  sd_q2 (F_Mo_isWhat x1 (1 : Int32) I1) fun r2 I3 =>
  if r2 = 0 then
    some ((0 : Int32), I3)
  else
    sd_q2 (F_Mo_aims 86 x1 I3) fun r4 I5 =>
    some (r4, I5)
theorem G_Mo_aimed {X : Nat × (Nat → Int32)} {t d D : Nat} {Q : sm_Q} {I : sm_MI} {J : sm_MJ} {x1 : Int32} {rz : Int32} {Iz : sm_MI}
    (hD : 4 ≤ D) (h : F_Mo_aimed x1 I = some (rz, Iz)) (hQ : Q (.inl (some (.int rz))) (Iz, J, sm_rf t d))  : sm_W sm_sh X (sm_C sm_sh X sm_P D) me_247 Q (0, [some (.ref 61), some (.int x1)], [], 0, 0) (I, J, sm_rf t d) := by
  unfold F_Mo_aimed at h
  refine sm_W.runL (sm_C_mono D) 3 (G := True) (e := (sd_up I 61 0 (0 : Int32))) (fr' := fun _ => (3, [some (.ref 61), some (.int x1)], [], 0, 0)) (M' := fun I1 => (I1, J, sm_rf t d)) rfl h trivial (fun I1 h => ?_)
  refine sm_W.run (sm_C_mono D) 3 (G := True) (fr' := (6, [some (.ref 61), some (.int x1)], [.int (1 : Int32), .int x1, .ref 61], 0, 0)) (M' := (I1, J, sm_rf t d)) rfl trivial ?_
  obtain ⟨r2, I3, hc, h⟩ := sd_q2_go h
  refine sm_W.cal (sm_C_mono D) (y := 206) (as := [.ref 61, .int x1, .int (1 : Int32)]) (fr' := (7, [some (.ref 61), some (.int x1)], [], 0, 0)) rfl (T_Mo_isWhat (by omega) hc ?_)
  show sm_W sm_sh X (sm_C sm_sh X sm_P D) me_247 Q (7, [some (.ref 61), some (.int x1)], [.int r2], 0, 0) (I3, J, sm_rf t d)
  refine sm_W.run (sm_C_mono D) 1 (G := True) (fr' := (if decide (r2 = 0) = true then 14 else 8, [some (.ref 61), some (.int x1)], [], 0, 0)) (M' := (I3, J, sm_rf t d)) rfl trivial (sm_W.iteD h (fun hc h => ?_) (fun hc h => ?_))
  · refine sm_W.run (sm_C_mono D) 1 (G := True) (fr' := (15, [some (.ref 61), some (.int x1)], [.int (0 : Int32)], 0, 0)) (M' := (I3, J, sm_rf t d)) rfl trivial ?_
    cases h
    exact sm_W.ret (sm_C_mono D) rfl hQ
  · refine sm_W.run (sm_C_mono D) 4 (G := True) (fr' := (12, [some (.ref 61), some (.int x1)], [.int x1, .ref 86, .ref 61], 0, 0)) (M' := (I3, J, sm_rf t d)) rfl trivial ?_
    obtain ⟨r4, I5, hc, h⟩ := sd_q2_go h
    refine sm_W.cal (sm_C_mono D) (y := 215) (as := [.ref 61, .ref 86, .int x1]) (fr' := (13, [some (.ref 61), some (.int x1)], [], 0, 0)) rfl (T_Mo_aims (by omega) (by decide) hc ?_)
    show sm_W sm_sh X (sm_C sm_sh X sm_P D) me_247 Q (13, [some (.ref 61), some (.int x1)], [.int r4], 0, 0) (I5, J, sm_rf t d)
    refine sm_W.run (sm_C_mono D) 1 (G := True) (fr' := (15, [some (.ref 61), some (.int x1)], [.int r4], 0, 0)) (M' := (I5, J, sm_rf t d)) rfl trivial ?_
    cases h
    exact sm_W.ret (sm_C_mono D) rfl hQ
theorem T_Mo_aimed {X : Nat × (Nat → Int32)} {t d D : Nat} {Q : sm_Q} {I : sm_MI} {J : sm_MJ} {x1 : Int32} {rz : Int32} {Iz : sm_MI}
    (hD : 5 ≤ D) (h : F_Mo_aimed x1 I = some (rz, Iz)) (hQ : Q (.inl (some (.int rz))) (Iz, J, sm_rf t d)) : sm_C sm_sh X sm_P D 247 [.ref 61, .int x1] (I, J, sm_rf t d) Q := by
  cases D with
  | zero => omega
  | succ D => exact sm_C.of (me := me_247) (L := [some (.ref 61), some (.int x1)]) rfl rfl rfl (sm_W.forget (L' := [some (.ref 61), some (.int x1)]) ⟨rfl, ⟨rfl, trivial⟩⟩ (G_Mo_aimed (by omega) h hQ))
-- 248 Mo_held
noncomputable def F_Mo_held_41 (k28 : Int32 → Int32 → Int32 → Int32 → sm_MI → Option (Int32 × sm_MI)) (x1 : Int32) (x2 : Int32) (x4 : Int32) (s0 : Int32) (s1 : Int32) (I : sm_MI) : Option (Int32 × sm_MI) :=
  sd_lt (s0 + s1) fun a1 =>
  sd_q2 (F_Mo_dayGoes 87 I) fun r2 I3 =>
  k28 x1 x2 a1 (x4 + (1 : Int32)) I3
noncomputable def F_Mo_held_28B (k28 : Int32 → Int32 → Int32 → Int32 → sm_MI → Option (Int32 × sm_MI)) (x1 : Int32) (x2 : Int32) (x3 : Int32) (x4 : Int32) (I : sm_MI) : Option (Int32 × sm_MI) :=
  if x2 ≤ x4 then
    some (x3, I)
  else
    sd_q2 (F_Mo_isHolding 87 x1 I) fun r1 I2 =>
    if r1 = 0 then
      F_Mo_held_41 k28 x1 x2 x4 x3 (0 : Int32) I2
    else
      F_Mo_held_41 k28 x1 x2 x4 x3 (1 : Int32) I2
noncomputable def F_Mo_held_28  (n : Nat) : Int32 → Int32 → Int32 → Int32 → sm_MI → Option (Int32 × sm_MI) :=
  sd_fix (fun k x1 x2 x3 x4 I => F_Mo_held_28B k x1 x2 x3 x4 I) (fun _ _ _ _ _ => none) n
noncomputable def F_Mo_held (x1 : Int32) (x2 : Int32) (I : sm_MI) : Option (Int32 × sm_MI) :=
  sd_lt (sd_up I 61 0 (0 : Int32)) fun I1 =>
  sd_q2 (F_Mo_isWhat x1 (1 : Int32) I1) fun r2 I3 =>
  if r2 = 0 then
    some ((0 : Int32), I3)
  else
    sd_q1 (F_Mo_within x2 (0 : Int32) (99 : Int32)) fun r4 =>
    sd_q2 (F_Mo_right r4 (2 : Int32) I3) fun r5 I6 =>
    if ¬ r5 = 0 then
      sd_q1 (F_Mo_copies 86 87 I6) fun I7 =>
      F_Mo_held_28 sd_fu x1 x2 (0 : Int32) (0 : Int32) I7
    else
      some ((0 : Int32), I6)
theorem G_Mo_held_41 {X : Nat × (Nat → Int32)} {t d D : Nat} {Q : sm_Q} {I : sm_MI} {J : sm_MJ} {k28 : Int32 → Int32 → Int32 → Int32 → sm_MI → Option (Int32 × sm_MI)} {x1 : Int32} {x2 : Int32} {x4 : Int32} {s0 : Int32} {s1 : Int32} {rz : Int32} {Iz : sm_MI}
    (hD : 7 ≤ D) (h : F_Mo_held_41 k28 x1 x2 x4 s0 s1 I = some (rz, Iz)) (hQ : Q (.inl (some (.int rz))) (Iz, J, sm_rf t d)) (hk28 : ∀ (x1 : Int32) (x2 : Int32) (x3 : Int32) (x4 : Int32) (I : sm_MI), k28 x1 x2 x3 x4 I = some (rz, Iz) → sm_W sm_sh X (sm_C sm_sh X sm_P D) me_248 Q (28, [some (.ref 61), some (.int x1), some (.int x2), some (.int x3), some (.int x4)], [], 0, 0) (I, J, sm_rf t d)) : sm_W sm_sh X (sm_C sm_sh X sm_P D) me_248 Q (41, [some (.ref 61), some (.int x1), some (.int x2), none, some (.int x4)], [.int s1, .int s0], 0, 0) (I, J, sm_rf t d) := by
  unfold F_Mo_held_41 at h
  refine sm_W.runL (sm_C_mono D) 2 (G := True) (e := (s0 + s1)) (fr' := fun a1 => (43, [some (.ref 61), some (.int x1), some (.int x2), some (.int a1), some (.int x4)], [], 0, 0)) (M' := fun _ => (I, J, sm_rf t d)) rfl h trivial (fun a1 h => ?_)
  refine sm_W.run (sm_C_mono D) 3 (G := True) (fr' := (46, [some (.ref 61), some (.int x1), some (.int x2), some (.int a1), some (.int x4)], [.ref 87, .ref 61], 0, 0)) (M' := (I, J, sm_rf t d)) rfl trivial ?_
  obtain ⟨r2, I3, hc, h⟩ := sd_q2_go h
  refine sm_W.cal (sm_C_mono D) (y := 216) (as := [.ref 61, .ref 87]) (fr' := (47, [some (.ref 61), some (.int x1), some (.int x2), some (.int a1), some (.int x4)], [], 0, 0)) rfl (T_Mo_dayGoes (by omega) (by decide) hc ?_)
  show sm_W sm_sh X (sm_C sm_sh X sm_P D) me_248 Q (47, [some (.ref 61), some (.int x1), some (.int x2), some (.int a1), some (.int x4)], [.int r2], 0, 0) (I3, J, sm_rf t d)
  refine sm_W.run (sm_C_mono D) 3 (G := True) (fr' := (28, [some (.ref 61), some (.int x1), some (.int x2), some (.int a1), some (.int (x4 + (1 : Int32)))], [], 0, 0)) (M' := (I3, J, sm_rf t d)) rfl trivial ?_
  exact (hk28 _ _ _ _ _ h)
theorem G_Mo_held_28B {X : Nat × (Nat → Int32)} {t d D : Nat} {Q : sm_Q} {I : sm_MI} {J : sm_MJ} {k28 : Int32 → Int32 → Int32 → Int32 → sm_MI → Option (Int32 × sm_MI)} {x1 : Int32} {x2 : Int32} {x3 : Int32} {x4 : Int32} {rz : Int32} {Iz : sm_MI}
    (hD : 7 ≤ D) (h : F_Mo_held_28B k28 x1 x2 x3 x4 I = some (rz, Iz)) (hQ : Q (.inl (some (.int rz))) (Iz, J, sm_rf t d)) (hk28 : ∀ (x1 : Int32) (x2 : Int32) (x3 : Int32) (x4 : Int32) (I : sm_MI), k28 x1 x2 x3 x4 I = some (rz, Iz) → sm_W sm_sh X (sm_C sm_sh X sm_P D) me_248 Q (28, [some (.ref 61), some (.int x1), some (.int x2), some (.int x3), some (.int x4)], [], 0, 0) (I, J, sm_rf t d)) : sm_W sm_sh X (sm_C sm_sh X sm_P D) me_248 Q (28, [some (.ref 61), some (.int x1), some (.int x2), some (.int x3), some (.int x4)], [], 0, 0) (I, J, sm_rf t d) := by
  unfold F_Mo_held_28B at h
  refine sm_W.run (sm_C_mono D) 3 (G := True) (fr' := (if decide (x2 ≤ x4) = true then 50 else 31, [some (.ref 61), some (.int x1), some (.int x2), some (.int x3), some (.int x4)], [], 0, 0)) (M' := (I, J, sm_rf t d)) rfl trivial (sm_W.iteD h (fun hc h => ?_) (fun hc h => ?_))
  · refine sm_W.run (sm_C_mono D) 1 (G := True) (fr' := (51, [some (.ref 61), some (.int x1), some (.int x2), some (.int x3), some (.int x4)], [.int x3], 0, 0)) (M' := (I, J, sm_rf t d)) rfl trivial ?_
    cases h
    exact sm_W.ret (sm_C_mono D) rfl hQ
  · refine sm_W.run (sm_C_mono D) 5 (G := True) (fr' := (36, [some (.ref 61), some (.int x1), some (.int x2), some (.int x3), some (.int x4)], [.int x1, .ref 87, .ref 61, .int x3], 0, 0)) (M' := (I, J, sm_rf t d)) rfl trivial ?_
    obtain ⟨r1, I2, hc, h⟩ := sd_q2_go h
    refine sm_W.cal (sm_C_mono D) (y := 213) (as := [.ref 61, .ref 87, .int x1]) (fr' := (37, [some (.ref 61), some (.int x1), some (.int x2), some (.int x3), some (.int x4)], [.int x3], 0, 0)) rfl (T_Mo_isHolding (by omega) (by decide) hc ?_)
    show sm_W sm_sh X (sm_C sm_sh X sm_P D) me_248 Q (37, [some (.ref 61), some (.int x1), some (.int x2), some (.int x3), some (.int x4)], [.int r1, .int x3], 0, 0) (I2, J, sm_rf t d)
    refine sm_W.run (sm_C_mono D) 1 (G := True) (fr' := (if decide (r1 = 0) = true then 40 else 38, [some (.ref 61), some (.int x1), some (.int x2), some (.int x3), some (.int x4)], [.int x3], 0, 0)) (M' := (I2, J, sm_rf t d)) rfl trivial (sm_W.iteD h (fun hc h => ?_) (fun hc h => ?_))
    · refine sm_W.run (sm_C_mono D) 1 (G := True) (fr' := (41, [some (.ref 61), some (.int x1), some (.int x2), some (.int x3), some (.int x4)], [.int (0 : Int32), .int x3], 0, 0)) (M' := (I2, J, sm_rf t d)) rfl trivial ?_
      exact sm_W.forget (L' := [some (.ref 61), some (.int x1), some (.int x2), none, some (.int x4)]) ⟨rfl, ⟨rfl, ⟨rfl, ⟨rfl, trivial⟩⟩⟩⟩ (G_Mo_held_41 hD h hQ hk28)
    · refine sm_W.run (sm_C_mono D) 2 (G := True) (fr' := (41, [some (.ref 61), some (.int x1), some (.int x2), some (.int x3), some (.int x4)], [.int (1 : Int32), .int x3], 0, 0)) (M' := (I2, J, sm_rf t d)) rfl trivial ?_
      exact sm_W.forget (L' := [some (.ref 61), some (.int x1), some (.int x2), none, some (.int x4)]) ⟨rfl, ⟨rfl, ⟨rfl, ⟨rfl, trivial⟩⟩⟩⟩ (G_Mo_held_41 hD h hQ hk28)
theorem G_Mo_held_28 {X : Nat × (Nat → Int32)} {t d D : Nat} {Q : sm_Q} {J : sm_MJ} {rz : Int32} {Iz : sm_MI}
    (hD : 7 ≤ D) (hQ : Q (.inl (some (.int rz))) (Iz, J, sm_rf t d))  : ∀ (n : Nat) (x1 : Int32) (x2 : Int32) (x3 : Int32) (x4 : Int32) (I : sm_MI), F_Mo_held_28 n x1 x2 x3 x4 I = some (rz, Iz) → sm_W sm_sh X (sm_C sm_sh X sm_P D) me_248 Q (28, [some (.ref 61), some (.int x1), some (.int x2), some (.int x3), some (.int x4)], [], 0, 0) (I, J, sm_rf t d) := by
  intro n
  induction n with
  | zero => intro x1 x2 x3 x4 I h; cases (show (none : Option (Int32 × sm_MI)) = some (rz, Iz) from h)
  | succ n ih => intro x1 x2 x3 x4 I h; exact G_Mo_held_28B hD (show F_Mo_held_28B (F_Mo_held_28 n) x1 x2 x3 x4 I = some (rz, Iz) from h) hQ  ih
theorem G_Mo_held {X : Nat × (Nat → Int32)} {t d D : Nat} {Q : sm_Q} {I : sm_MI} {J : sm_MJ} {x1 : Int32} {x2 : Int32} {rz : Int32} {Iz : sm_MI}
    (hD : 7 ≤ D) (h : F_Mo_held x1 x2 I = some (rz, Iz)) (hQ : Q (.inl (some (.int rz))) (Iz, J, sm_rf t d))  : sm_W sm_sh X (sm_C sm_sh X sm_P D) me_248 Q (0, [some (.ref 61), some (.int x1), some (.int x2), none, none], [], 0, 0) (I, J, sm_rf t d) := by
  unfold F_Mo_held at h
  refine sm_W.runL (sm_C_mono D) 3 (G := True) (e := (sd_up I 61 0 (0 : Int32))) (fr' := fun _ => (3, [some (.ref 61), some (.int x1), some (.int x2), none, none], [], 0, 0)) (M' := fun I1 => (I1, J, sm_rf t d)) rfl h trivial (fun I1 h => ?_)
  refine sm_W.run (sm_C_mono D) 3 (G := True) (fr' := (6, [some (.ref 61), some (.int x1), some (.int x2), none, none], [.int (1 : Int32), .int x1, .ref 61], 0, 0)) (M' := (I1, J, sm_rf t d)) rfl trivial ?_
  obtain ⟨r2, I3, hc, h⟩ := sd_q2_go h
  refine sm_W.cal (sm_C_mono D) (y := 206) (as := [.ref 61, .int x1, .int (1 : Int32)]) (fr' := (7, [some (.ref 61), some (.int x1), some (.int x2), none, none], [], 0, 0)) rfl (T_Mo_isWhat (by omega) hc ?_)
  show sm_W sm_sh X (sm_C sm_sh X sm_P D) me_248 Q (7, [some (.ref 61), some (.int x1), some (.int x2), none, none], [.int r2], 0, 0) (I3, J, sm_rf t d)
  refine sm_W.run (sm_C_mono D) 1 (G := True) (fr' := (if decide (r2 = 0) = true then 16 else 8, [some (.ref 61), some (.int x1), some (.int x2), none, none], [], 0, 0)) (M' := (I3, J, sm_rf t d)) rfl trivial (sm_W.iteD h (fun hc h => ?_) (fun hc h => ?_))
  · refine sm_W.run (sm_C_mono D) 1 (G := True) (fr' := (17, [some (.ref 61), some (.int x1), some (.int x2), none, none], [.int (0 : Int32)], 0, 0)) (M' := (I3, J, sm_rf t d)) rfl trivial ?_
    cases h
    exact sm_W.ret (sm_C_mono D) rfl hQ
  · refine sm_W.run (sm_C_mono D) 4 (G := True) (fr' := (12, [some (.ref 61), some (.int x1), some (.int x2), none, none], [.int (99 : Int32), .int (0 : Int32), .int x2, .ref 61], 0, 0)) (M' := (I3, J, sm_rf t d)) rfl trivial ?_
    obtain ⟨r4, hc, h⟩ := sd_q1_go h
    refine sm_W.cal (sm_C_mono D) (y := 159) (as := [.int x2, .int (0 : Int32), .int (99 : Int32)]) (fr' := (13, [some (.ref 61), some (.int x1), some (.int x2), none, none], [.ref 61], 0, 0)) rfl (T_Mo_within (by omega) hc ?_)
    show sm_W sm_sh X (sm_C sm_sh X sm_P D) me_248 Q (13, [some (.ref 61), some (.int x1), some (.int x2), none, none], [.int r4, .ref 61], 0, 0) (I3, J, sm_rf t d)
    refine sm_W.run (sm_C_mono D) 1 (G := True) (fr' := (14, [some (.ref 61), some (.int x1), some (.int x2), none, none], [.int (2 : Int32), .int r4, .ref 61], 0, 0)) (M' := (I3, J, sm_rf t d)) rfl trivial ?_
    obtain ⟨r5, I6, hc, h⟩ := sd_q2_go h
    refine sm_W.cal (sm_C_mono D) (y := 158) (as := [.ref 61, .int r4, .int (2 : Int32)]) (fr' := (15, [some (.ref 61), some (.int x1), some (.int x2), none, none], [], 0, 0)) rfl (T_Mo_right (by omega) hc ?_)
    show sm_W sm_sh X (sm_C sm_sh X sm_P D) me_248 Q (15, [some (.ref 61), some (.int x1), some (.int x2), none, none], [.int r5], 0, 0) (I6, J, sm_rf t d)
    refine sm_W.run (sm_C_mono D) 1 (G := True) (fr' := (if decide (¬ r5 = 0) = true then 18 else 16, [some (.ref 61), some (.int x1), some (.int x2), none, none], [], 0, 0)) (M' := (I6, J, sm_rf t d)) rfl trivial (sm_W.iteD h (fun hc h => ?_) (fun hc h => ?_))
    · refine sm_W.run (sm_C_mono D) 5 (G := True) (fr' := (23, [some (.ref 61), some (.int x1), some (.int x2), none, none], [.ref 87, .ref 86, .ref 61], 0, 0)) (M' := (I6, J, sm_rf t d)) rfl trivial ?_
      obtain ⟨I7, hc, h⟩ := sd_q1_go h
      refine sm_W.cal (sm_C_mono D) (y := 160) (as := [.ref 61, .ref 86, .ref 87]) (fr' := (24, [some (.ref 61), some (.int x1), some (.int x2), none, none], [], 0, 0)) rfl (T_Mo_copies (by omega) (by decide) hc ?_)
      show sm_W sm_sh X (sm_C sm_sh X sm_P D) me_248 Q (24, [some (.ref 61), some (.int x1), some (.int x2), none, none], [], 0, 0) (I7, J, sm_rf t d)
      refine sm_W.run (sm_C_mono D) 4 (G := True) (fr' := (28, [some (.ref 61), some (.int x1), some (.int x2), some (.int (0 : Int32)), some (.int (0 : Int32))], [], 0, 0)) (M' := (I7, J, sm_rf t d)) rfl trivial ?_
      exact (G_Mo_held_28 hD hQ sd_fu _ _ _ _ _ h)
    · refine sm_W.run (sm_C_mono D) 1 (G := True) (fr' := (17, [some (.ref 61), some (.int x1), some (.int x2), none, none], [.int (0 : Int32)], 0, 0)) (M' := (I6, J, sm_rf t d)) rfl trivial ?_
      cases h
      exact sm_W.ret (sm_C_mono D) rfl hQ
theorem T_Mo_held {X : Nat × (Nat → Int32)} {t d D : Nat} {Q : sm_Q} {I : sm_MI} {J : sm_MJ} {x1 : Int32} {x2 : Int32} {rz : Int32} {Iz : sm_MI}
    (hD : 8 ≤ D) (h : F_Mo_held x1 x2 I = some (rz, Iz)) (hQ : Q (.inl (some (.int rz))) (Iz, J, sm_rf t d)) : sm_C sm_sh X sm_P D 248 [.ref 61, .int x1, .int x2] (I, J, sm_rf t d) Q := by
  cases D with
  | zero => omega
  | succ D => exact sm_C.of (me := me_248) (L := [some (.ref 61), some (.int x1), some (.int x2), none, none]) rfl rfl rfl (sm_W.forget (L' := [some (.ref 61), some (.int x1), some (.int x2), none, none]) ⟨rfl, ⟨rfl, ⟨rfl, trivial⟩⟩⟩ (G_Mo_held (by omega) h hQ))
-- 249 Mo_lost
noncomputable def F_Mo_lost_17B (k17 : Int32 → Int32 → sm_MI → Option (Int32 × sm_MI)) (x1 : Int32) (x2 : Int32) (I : sm_MI) : Option (Int32 × sm_MI) :=
  if (99 : Int32) ≤ x2 then
    some ((-1 : Int32), I)
  else
    sd_q1 (F_Mo_areSo 87 (0 : Int32) I) fun r1 =>
    sd_q1 (F_Mo_canBeSung r1 x1 (0 : Int32) I) fun r2 =>
    if ¬ r2 = 0 then
      sd_q2 (F_Mo_dayGoes 87 I) fun r3 I4 =>
      k17 x1 (x2 + (1 : Int32)) I4
    else
      sd_gu (sm_in (14 : Int32) 16 = true) <|
      some ((I 87 14), I)
noncomputable def F_Mo_lost_17  (n : Nat) : Int32 → Int32 → sm_MI → Option (Int32 × sm_MI) :=
  sd_fix (fun k x1 x2 I => F_Mo_lost_17B k x1 x2 I) (fun _ _ _ => none) n
noncomputable def F_Mo_lost (x1 : Int32) (I : sm_MI) : Option (Int32 × sm_MI) :=
  sd_lt (sd_up I 61 0 (0 : Int32)) fun I1 =>
  sd_q2 (F_Mo_isPiece x1 I1) fun r2 I3 =>
  if ¬ r2 = 0 then
    sd_q1 (F_Mo_copies 86 87 I3) fun I4 =>
    F_Mo_lost_17 sd_fu x1 (0 : Int32) I4
  else
    some ((0 : Int32), I3)
theorem G_Mo_lost_17B {X : Nat × (Nat → Int32)} {t d D : Nat} {Q : sm_Q} {I : sm_MI} {J : sm_MJ} {k17 : Int32 → Int32 → sm_MI → Option (Int32 × sm_MI)} {x1 : Int32} {x2 : Int32} {rz : Int32} {Iz : sm_MI}
    (hD : 7 ≤ D) (h : F_Mo_lost_17B k17 x1 x2 I = some (rz, Iz)) (hQ : Q (.inl (some (.int rz))) (Iz, J, sm_rf t d)) (hk17 : ∀ (x1 : Int32) (x2 : Int32) (I : sm_MI), k17 x1 x2 I = some (rz, Iz) → sm_W sm_sh X (sm_C sm_sh X sm_P D) me_249 Q (17, [some (.ref 61), some (.int x1), some (.int x2)], [], 0, 0) (I, J, sm_rf t d)) : sm_W sm_sh X (sm_C sm_sh X sm_P D) me_249 Q (17, [some (.ref 61), some (.int x1), some (.int x2)], [], 0, 0) (I, J, sm_rf t d) := by
  unfold F_Mo_lost_17B at h
  refine sm_W.run (sm_C_mono D) 3 (G := True) (fr' := (if decide ((99 : Int32) ≤ x2) = true then 42 else 20, [some (.ref 61), some (.int x1), some (.int x2)], [], 0, 0)) (M' := (I, J, sm_rf t d)) rfl trivial (sm_W.iteD h (fun hc h => ?_) (fun hc h => ?_))
  · refine sm_W.run (sm_C_mono D) 1 (G := True) (fr' := (43, [some (.ref 61), some (.int x1), some (.int x2)], [.int (-1 : Int32)], 0, 0)) (M' := (I, J, sm_rf t d)) rfl trivial ?_
    cases h
    exact sm_W.ret (sm_C_mono D) rfl hQ
  · refine sm_W.run (sm_C_mono D) 5 (G := True) (fr' := (25, [some (.ref 61), some (.int x1), some (.int x2)], [.int (0 : Int32), .ref 87, .ref 61, .ref 61], 0, 0)) (M' := (I, J, sm_rf t d)) rfl trivial ?_
    obtain ⟨r1, hc, h⟩ := sd_q1_go h
    refine sm_W.cal (sm_C_mono D) (y := 196) (as := [.ref 61, .ref 87, .int (0 : Int32)]) (fr' := (26, [some (.ref 61), some (.int x1), some (.int x2)], [.ref 61], 0, 0)) rfl (T_Mo_areSo (by omega) (by decide) hc ?_)
    show sm_W sm_sh X (sm_C sm_sh X sm_P D) me_249 Q (26, [some (.ref 61), some (.int x1), some (.int x2)], [.int r1, .ref 61], 0, 0) (I, J, sm_rf t d)
    refine sm_W.run (sm_C_mono D) 2 (G := True) (fr' := (28, [some (.ref 61), some (.int x1), some (.int x2)], [.int (0 : Int32), .int x1, .int r1, .ref 61], 0, 0)) (M' := (I, J, sm_rf t d)) rfl trivial ?_
    obtain ⟨r2, hc, h⟩ := sd_q1_go h
    refine sm_W.cal (sm_C_mono D) (y := 201) (as := [.ref 61, .int r1, .int x1, .int (0 : Int32)]) (fr' := (29, [some (.ref 61), some (.int x1), some (.int x2)], [], 0, 0)) rfl (T_Mo_canBeSung (by omega) hc ?_)
    show sm_W sm_sh X (sm_C sm_sh X sm_P D) me_249 Q (29, [some (.ref 61), some (.int x1), some (.int x2)], [.int r2], 0, 0) (I, J, sm_rf t d)
    refine sm_W.run (sm_C_mono D) 1 (G := True) (fr' := (if decide (¬ r2 = 0) = true then 35 else 30, [some (.ref 61), some (.int x1), some (.int x2)], [], 0, 0)) (M' := (I, J, sm_rf t d)) rfl trivial (sm_W.iteD h (fun hc h => ?_) (fun hc h => ?_))
    · refine sm_W.run (sm_C_mono D) 3 (G := True) (fr' := (38, [some (.ref 61), some (.int x1), some (.int x2)], [.ref 87, .ref 61], 0, 0)) (M' := (I, J, sm_rf t d)) rfl trivial ?_
      obtain ⟨r3, I4, hc, h⟩ := sd_q2_go h
      refine sm_W.cal (sm_C_mono D) (y := 216) (as := [.ref 61, .ref 87]) (fr' := (39, [some (.ref 61), some (.int x1), some (.int x2)], [], 0, 0)) rfl (T_Mo_dayGoes (by omega) (by decide) hc ?_)
      show sm_W sm_sh X (sm_C sm_sh X sm_P D) me_249 Q (39, [some (.ref 61), some (.int x1), some (.int x2)], [.int r3], 0, 0) (I4, J, sm_rf t d)
      refine sm_W.run (sm_C_mono D) 3 (G := True) (fr' := (17, [some (.ref 61), some (.int x1), some (.int (x2 + (1 : Int32)))], [], 0, 0)) (M' := (I4, J, sm_rf t d)) rfl trivial ?_
      exact (hk17 _ _ _ h)
    · obtain ⟨g5, h⟩ := sd_gu_go h
      refine sm_W.run (sm_C_mono D) 4 (G := sm_in (14 : Int32) 16 = true ∧ True) (fr' := (34, [some (.ref 61), some (.int x1), some (.int x2)], [.int (I 87 14)], 0, 0)) (M' := (I, J, sm_rf t d)) rfl ⟨g5, trivial⟩ ?_
      cases h
      exact sm_W.ret (sm_C_mono D) rfl hQ
theorem G_Mo_lost_17 {X : Nat × (Nat → Int32)} {t d D : Nat} {Q : sm_Q} {J : sm_MJ} {rz : Int32} {Iz : sm_MI}
    (hD : 7 ≤ D) (hQ : Q (.inl (some (.int rz))) (Iz, J, sm_rf t d))  : ∀ (n : Nat) (x1 : Int32) (x2 : Int32) (I : sm_MI), F_Mo_lost_17 n x1 x2 I = some (rz, Iz) → sm_W sm_sh X (sm_C sm_sh X sm_P D) me_249 Q (17, [some (.ref 61), some (.int x1), some (.int x2)], [], 0, 0) (I, J, sm_rf t d) := by
  intro n
  induction n with
  | zero => intro x1 x2 I h; cases (show (none : Option (Int32 × sm_MI)) = some (rz, Iz) from h)
  | succ n ih => intro x1 x2 I h; exact G_Mo_lost_17B hD (show F_Mo_lost_17B (F_Mo_lost_17 n) x1 x2 I = some (rz, Iz) from h) hQ  ih
theorem G_Mo_lost {X : Nat × (Nat → Int32)} {t d D : Nat} {Q : sm_Q} {I : sm_MI} {J : sm_MJ} {x1 : Int32} {rz : Int32} {Iz : sm_MI}
    (hD : 7 ≤ D) (h : F_Mo_lost x1 I = some (rz, Iz)) (hQ : Q (.inl (some (.int rz))) (Iz, J, sm_rf t d))  : sm_W sm_sh X (sm_C sm_sh X sm_P D) me_249 Q (0, [some (.ref 61), some (.int x1), none], [], 0, 0) (I, J, sm_rf t d) := by
  unfold F_Mo_lost at h
  refine sm_W.runL (sm_C_mono D) 3 (G := True) (e := (sd_up I 61 0 (0 : Int32))) (fr' := fun _ => (3, [some (.ref 61), some (.int x1), none], [], 0, 0)) (M' := fun I1 => (I1, J, sm_rf t d)) rfl h trivial (fun I1 h => ?_)
  refine sm_W.run (sm_C_mono D) 2 (G := True) (fr' := (5, [some (.ref 61), some (.int x1), none], [.int x1, .ref 61], 0, 0)) (M' := (I1, J, sm_rf t d)) rfl trivial ?_
  obtain ⟨r2, I3, hc, h⟩ := sd_q2_go h
  refine sm_W.cal (sm_C_mono D) (y := 205) (as := [.ref 61, .int x1]) (fr' := (6, [some (.ref 61), some (.int x1), none], [], 0, 0)) rfl (T_Mo_isPiece (by omega) hc ?_)
  show sm_W sm_sh X (sm_C sm_sh X sm_P D) me_249 Q (6, [some (.ref 61), some (.int x1), none], [.int r2], 0, 0) (I3, J, sm_rf t d)
  refine sm_W.run (sm_C_mono D) 1 (G := True) (fr' := (if decide (¬ r2 = 0) = true then 9 else 7, [some (.ref 61), some (.int x1), none], [], 0, 0)) (M' := (I3, J, sm_rf t d)) rfl trivial (sm_W.iteD h (fun hc h => ?_) (fun hc h => ?_))
  · refine sm_W.run (sm_C_mono D) 5 (G := True) (fr' := (14, [some (.ref 61), some (.int x1), none], [.ref 87, .ref 86, .ref 61], 0, 0)) (M' := (I3, J, sm_rf t d)) rfl trivial ?_
    obtain ⟨I4, hc, h⟩ := sd_q1_go h
    refine sm_W.cal (sm_C_mono D) (y := 160) (as := [.ref 61, .ref 86, .ref 87]) (fr' := (15, [some (.ref 61), some (.int x1), none], [], 0, 0)) rfl (T_Mo_copies (by omega) (by decide) hc ?_)
    show sm_W sm_sh X (sm_C sm_sh X sm_P D) me_249 Q (15, [some (.ref 61), some (.int x1), none], [], 0, 0) (I4, J, sm_rf t d)
    refine sm_W.run (sm_C_mono D) 2 (G := True) (fr' := (17, [some (.ref 61), some (.int x1), some (.int (0 : Int32))], [], 0, 0)) (M' := (I4, J, sm_rf t d)) rfl trivial ?_
    exact (G_Mo_lost_17 hD hQ sd_fu _ _ _ h)
  · refine sm_W.run (sm_C_mono D) 1 (G := True) (fr' := (8, [some (.ref 61), some (.int x1), none], [.int (0 : Int32)], 0, 0)) (M' := (I3, J, sm_rf t d)) rfl trivial ?_
    cases h
    exact sm_W.ret (sm_C_mono D) rfl hQ
theorem T_Mo_lost {X : Nat × (Nat → Int32)} {t d D : Nat} {Q : sm_Q} {I : sm_MI} {J : sm_MJ} {x1 : Int32} {rz : Int32} {Iz : sm_MI}
    (hD : 8 ≤ D) (h : F_Mo_lost x1 I = some (rz, Iz)) (hQ : Q (.inl (some (.int rz))) (Iz, J, sm_rf t d)) : sm_C sm_sh X sm_P D 249 [.ref 61, .int x1] (I, J, sm_rf t d) Q := by
  cases D with
  | zero => omega
  | succ D => exact sm_C.of (me := me_249) (L := [some (.ref 61), some (.int x1), none]) rfl rfl rfl (sm_W.forget (L' := [some (.ref 61), some (.int x1), none]) ⟨rfl, ⟨rfl, trivial⟩⟩ (G_Mo_lost (by omega) h hQ))
-- 250 Mo_gone
noncomputable def F_Mo_gone_18B (k18 : Int32 → Int32 → sm_MI → Option (Int32 × sm_MI)) (x1 : Int32) (x2 : Int32) (I : sm_MI) : Option (Int32 × sm_MI) :=
  if (99 : Int32) ≤ x2 then
    some ((-1 : Int32), I)
  else
    sd_q1 (F_Mo_areSo 87 (0 : Int32) I) fun r1 =>
    sd_q1 (F_Mo_ofSide x1 I) fun r2 =>
    if ¬ (r1 &&& r2) = 0 then
      sd_q2 (F_Mo_dayGoes 87 I) fun r3 I4 =>
      k18 x1 (x2 + (1 : Int32)) I4
    else
      sd_gu (sm_in (14 : Int32) 16 = true) <|
      some ((I 87 14), I)
noncomputable def F_Mo_gone_18  (n : Nat) : Int32 → Int32 → sm_MI → Option (Int32 × sm_MI) :=
  sd_fix (fun k x1 x2 I => F_Mo_gone_18B k x1 x2 I) (fun _ _ _ => none) n
noncomputable def F_Mo_gone (x1 : Int32) (I : sm_MI) : Option (Int32 × sm_MI) :=
  sd_lt (sd_up I 61 0 (0 : Int32)) fun I1 =>
  sd_q2 (F_Mo_isWhat x1 (2 : Int32) I1) fun r2 I3 =>
  if ¬ r2 = 0 then
    sd_q1 (F_Mo_copies 86 87 I3) fun I4 =>
    F_Mo_gone_18 sd_fu x1 (0 : Int32) I4
  else
    some ((0 : Int32), I3)
theorem G_Mo_gone_18B {X : Nat × (Nat → Int32)} {t d D : Nat} {Q : sm_Q} {I : sm_MI} {J : sm_MJ} {k18 : Int32 → Int32 → sm_MI → Option (Int32 × sm_MI)} {x1 : Int32} {x2 : Int32} {rz : Int32} {Iz : sm_MI}
    (hD : 7 ≤ D) (h : F_Mo_gone_18B k18 x1 x2 I = some (rz, Iz)) (hQ : Q (.inl (some (.int rz))) (Iz, J, sm_rf t d)) (hk18 : ∀ (x1 : Int32) (x2 : Int32) (I : sm_MI), k18 x1 x2 I = some (rz, Iz) → sm_W sm_sh X (sm_C sm_sh X sm_P D) me_250 Q (18, [some (.ref 61), some (.int x1), some (.int x2)], [], 0, 0) (I, J, sm_rf t d)) : sm_W sm_sh X (sm_C sm_sh X sm_P D) me_250 Q (18, [some (.ref 61), some (.int x1), some (.int x2)], [], 0, 0) (I, J, sm_rf t d) := by
  unfold F_Mo_gone_18B at h
  refine sm_W.run (sm_C_mono D) 3 (G := True) (fr' := (if decide ((99 : Int32) ≤ x2) = true then 43 else 21, [some (.ref 61), some (.int x1), some (.int x2)], [], 0, 0)) (M' := (I, J, sm_rf t d)) rfl trivial (sm_W.iteD h (fun hc h => ?_) (fun hc h => ?_))
  · refine sm_W.run (sm_C_mono D) 1 (G := True) (fr' := (44, [some (.ref 61), some (.int x1), some (.int x2)], [.int (-1 : Int32)], 0, 0)) (M' := (I, J, sm_rf t d)) rfl trivial ?_
    cases h
    exact sm_W.ret (sm_C_mono D) rfl hQ
  · refine sm_W.run (sm_C_mono D) 4 (G := True) (fr' := (25, [some (.ref 61), some (.int x1), some (.int x2)], [.int (0 : Int32), .ref 87, .ref 61], 0, 0)) (M' := (I, J, sm_rf t d)) rfl trivial ?_
    obtain ⟨r1, hc, h⟩ := sd_q1_go h
    refine sm_W.cal (sm_C_mono D) (y := 196) (as := [.ref 61, .ref 87, .int (0 : Int32)]) (fr' := (26, [some (.ref 61), some (.int x1), some (.int x2)], [], 0, 0)) rfl (T_Mo_areSo (by omega) (by decide) hc ?_)
    show sm_W sm_sh X (sm_C sm_sh X sm_P D) me_250 Q (26, [some (.ref 61), some (.int x1), some (.int x2)], [.int r1], 0, 0) (I, J, sm_rf t d)
    refine sm_W.run (sm_C_mono D) 2 (G := True) (fr' := (28, [some (.ref 61), some (.int x1), some (.int x2)], [.int x1, .ref 61, .int r1], 0, 0)) (M' := (I, J, sm_rf t d)) rfl trivial ?_
    obtain ⟨r2, hc, h⟩ := sd_q1_go h
    refine sm_W.cal (sm_C_mono D) (y := 197) (as := [.ref 61, .int x1]) (fr' := (29, [some (.ref 61), some (.int x1), some (.int x2)], [.int r1], 0, 0)) rfl (T_Mo_ofSide (by omega) hc ?_)
    show sm_W sm_sh X (sm_C sm_sh X sm_P D) me_250 Q (29, [some (.ref 61), some (.int x1), some (.int x2)], [.int r2, .int r1], 0, 0) (I, J, sm_rf t d)
    refine sm_W.run (sm_C_mono D) 2 (G := True) (fr' := (if decide (¬ (r1 &&& r2) = 0) = true then 36 else 31, [some (.ref 61), some (.int x1), some (.int x2)], [], 0, 0)) (M' := (I, J, sm_rf t d)) rfl trivial (sm_W.iteD h (fun hc h => ?_) (fun hc h => ?_))
    · refine sm_W.run (sm_C_mono D) 3 (G := True) (fr' := (39, [some (.ref 61), some (.int x1), some (.int x2)], [.ref 87, .ref 61], 0, 0)) (M' := (I, J, sm_rf t d)) rfl trivial ?_
      obtain ⟨r3, I4, hc, h⟩ := sd_q2_go h
      refine sm_W.cal (sm_C_mono D) (y := 216) (as := [.ref 61, .ref 87]) (fr' := (40, [some (.ref 61), some (.int x1), some (.int x2)], [], 0, 0)) rfl (T_Mo_dayGoes (by omega) (by decide) hc ?_)
      show sm_W sm_sh X (sm_C sm_sh X sm_P D) me_250 Q (40, [some (.ref 61), some (.int x1), some (.int x2)], [.int r3], 0, 0) (I4, J, sm_rf t d)
      refine sm_W.run (sm_C_mono D) 3 (G := True) (fr' := (18, [some (.ref 61), some (.int x1), some (.int (x2 + (1 : Int32)))], [], 0, 0)) (M' := (I4, J, sm_rf t d)) rfl trivial ?_
      exact (hk18 _ _ _ h)
    · obtain ⟨g5, h⟩ := sd_gu_go h
      refine sm_W.run (sm_C_mono D) 4 (G := sm_in (14 : Int32) 16 = true ∧ True) (fr' := (35, [some (.ref 61), some (.int x1), some (.int x2)], [.int (I 87 14)], 0, 0)) (M' := (I, J, sm_rf t d)) rfl ⟨g5, trivial⟩ ?_
      cases h
      exact sm_W.ret (sm_C_mono D) rfl hQ
theorem G_Mo_gone_18 {X : Nat × (Nat → Int32)} {t d D : Nat} {Q : sm_Q} {J : sm_MJ} {rz : Int32} {Iz : sm_MI}
    (hD : 7 ≤ D) (hQ : Q (.inl (some (.int rz))) (Iz, J, sm_rf t d))  : ∀ (n : Nat) (x1 : Int32) (x2 : Int32) (I : sm_MI), F_Mo_gone_18 n x1 x2 I = some (rz, Iz) → sm_W sm_sh X (sm_C sm_sh X sm_P D) me_250 Q (18, [some (.ref 61), some (.int x1), some (.int x2)], [], 0, 0) (I, J, sm_rf t d) := by
  intro n
  induction n with
  | zero => intro x1 x2 I h; cases (show (none : Option (Int32 × sm_MI)) = some (rz, Iz) from h)
  | succ n ih => intro x1 x2 I h; exact G_Mo_gone_18B hD (show F_Mo_gone_18B (F_Mo_gone_18 n) x1 x2 I = some (rz, Iz) from h) hQ  ih
theorem G_Mo_gone {X : Nat × (Nat → Int32)} {t d D : Nat} {Q : sm_Q} {I : sm_MI} {J : sm_MJ} {x1 : Int32} {rz : Int32} {Iz : sm_MI}
    (hD : 7 ≤ D) (h : F_Mo_gone x1 I = some (rz, Iz)) (hQ : Q (.inl (some (.int rz))) (Iz, J, sm_rf t d))  : sm_W sm_sh X (sm_C sm_sh X sm_P D) me_250 Q (0, [some (.ref 61), some (.int x1), none], [], 0, 0) (I, J, sm_rf t d) := by
  unfold F_Mo_gone at h
  refine sm_W.runL (sm_C_mono D) 3 (G := True) (e := (sd_up I 61 0 (0 : Int32))) (fr' := fun _ => (3, [some (.ref 61), some (.int x1), none], [], 0, 0)) (M' := fun I1 => (I1, J, sm_rf t d)) rfl h trivial (fun I1 h => ?_)
  refine sm_W.run (sm_C_mono D) 3 (G := True) (fr' := (6, [some (.ref 61), some (.int x1), none], [.int (2 : Int32), .int x1, .ref 61], 0, 0)) (M' := (I1, J, sm_rf t d)) rfl trivial ?_
  obtain ⟨r2, I3, hc, h⟩ := sd_q2_go h
  refine sm_W.cal (sm_C_mono D) (y := 206) (as := [.ref 61, .int x1, .int (2 : Int32)]) (fr' := (7, [some (.ref 61), some (.int x1), none], [], 0, 0)) rfl (T_Mo_isWhat (by omega) hc ?_)
  show sm_W sm_sh X (sm_C sm_sh X sm_P D) me_250 Q (7, [some (.ref 61), some (.int x1), none], [.int r2], 0, 0) (I3, J, sm_rf t d)
  refine sm_W.run (sm_C_mono D) 1 (G := True) (fr' := (if decide (¬ r2 = 0) = true then 10 else 8, [some (.ref 61), some (.int x1), none], [], 0, 0)) (M' := (I3, J, sm_rf t d)) rfl trivial (sm_W.iteD h (fun hc h => ?_) (fun hc h => ?_))
  · refine sm_W.run (sm_C_mono D) 5 (G := True) (fr' := (15, [some (.ref 61), some (.int x1), none], [.ref 87, .ref 86, .ref 61], 0, 0)) (M' := (I3, J, sm_rf t d)) rfl trivial ?_
    obtain ⟨I4, hc, h⟩ := sd_q1_go h
    refine sm_W.cal (sm_C_mono D) (y := 160) (as := [.ref 61, .ref 86, .ref 87]) (fr' := (16, [some (.ref 61), some (.int x1), none], [], 0, 0)) rfl (T_Mo_copies (by omega) (by decide) hc ?_)
    show sm_W sm_sh X (sm_C sm_sh X sm_P D) me_250 Q (16, [some (.ref 61), some (.int x1), none], [], 0, 0) (I4, J, sm_rf t d)
    refine sm_W.run (sm_C_mono D) 2 (G := True) (fr' := (18, [some (.ref 61), some (.int x1), some (.int (0 : Int32))], [], 0, 0)) (M' := (I4, J, sm_rf t d)) rfl trivial ?_
    exact (G_Mo_gone_18 hD hQ sd_fu _ _ _ h)
  · refine sm_W.run (sm_C_mono D) 1 (G := True) (fr' := (9, [some (.ref 61), some (.int x1), none], [.int (0 : Int32)], 0, 0)) (M' := (I3, J, sm_rf t d)) rfl trivial ?_
    cases h
    exact sm_W.ret (sm_C_mono D) rfl hQ
theorem T_Mo_gone {X : Nat × (Nat → Int32)} {t d D : Nat} {Q : sm_Q} {I : sm_MI} {J : sm_MJ} {x1 : Int32} {rz : Int32} {Iz : sm_MI}
    (hD : 8 ≤ D) (h : F_Mo_gone x1 I = some (rz, Iz)) (hQ : Q (.inl (some (.int rz))) (Iz, J, sm_rf t d)) : sm_C sm_sh X sm_P D 250 [.ref 61, .int x1] (I, J, sm_rf t d) Q := by
  cases D with
  | zero => omega
  | succ D => exact sm_C.of (me := me_250) (L := [some (.ref 61), some (.int x1), none]) rfl rfl rfl (sm_W.forget (L' := [some (.ref 61), some (.int x1), none]) ⟨rfl, ⟨rfl, trivial⟩⟩ (G_Mo_gone (by omega) h hQ))
-- 251 Mo_rows
noncomputable def F_Mo_rows_13B (k13 : Int32 → Int32 → Int32 → sm_MI → Option (Int32 × sm_MI)) (x1 : Int32) (x2 : Int32) (x3 : Int32) (I : sm_MI) : Option (Int32 × sm_MI) :=
  if ((4 : Int32) * (I 61 2)) ≤ x3 then
    some (x2, I)
  else
    sd_q1 (F_Mo_areSo 86 (0 : Int32) I) fun r1 =>
    sd_q1 (F_Mo_ableOf r1 x3 (0 : Int32) I) fun r2 =>
    sd_lt (x2 + ((r2 >>> (x1 &&& 31)) &&& (1 : Int32))) fun a3 =>
    k13 x1 a3 (x3 + (1 : Int32)) I
noncomputable def F_Mo_rows_13  (n : Nat) : Int32 → Int32 → Int32 → sm_MI → Option (Int32 × sm_MI) :=
  sd_fix (fun k x1 x2 x3 I => F_Mo_rows_13B k x1 x2 x3 I) (fun _ _ _ _ => none) n
noncomputable def F_Mo_rows (x1 : Int32) (I : sm_MI) : Option (Int32 × sm_MI) :=
  sd_lt (sd_up I 61 0 (0 : Int32)) fun I1 =>
  sd_q2 (F_Mo_isSinger x1 I1) fun r2 I3 =>
  if ¬ r2 = 0 then
    F_Mo_rows_13 sd_fu x1 (0 : Int32) (0 : Int32) I3
  else
    some ((0 : Int32), I3)
theorem G_Mo_rows_13B {X : Nat × (Nat → Int32)} {t d D : Nat} {Q : sm_Q} {I : sm_MI} {J : sm_MJ} {k13 : Int32 → Int32 → Int32 → sm_MI → Option (Int32 × sm_MI)} {x1 : Int32} {x2 : Int32} {x3 : Int32} {rz : Int32} {Iz : sm_MI}
    (hD : 3 ≤ D) (h : F_Mo_rows_13B k13 x1 x2 x3 I = some (rz, Iz)) (hQ : Q (.inl (some (.int rz))) (Iz, J, sm_rf t d)) (hk13 : ∀ (x1 : Int32) (x2 : Int32) (x3 : Int32) (I : sm_MI), k13 x1 x2 x3 I = some (rz, Iz) → sm_W sm_sh X (sm_C sm_sh X sm_P D) me_251 Q (13, [some (.ref 61), some (.int x1), some (.int x2), some (.int x3)], [], 0, 0) (I, J, sm_rf t d)) : sm_W sm_sh X (sm_C sm_sh X sm_P D) me_251 Q (13, [some (.ref 61), some (.int x1), some (.int x2), some (.int x3)], [], 0, 0) (I, J, sm_rf t d) := by
  unfold F_Mo_rows_13B at h
  refine sm_W.run (sm_C_mono D) 6 (G := True) (fr' := (if decide (((4 : Int32) * (I 61 2)) ≤ x3) = true then 37 else 19, [some (.ref 61), some (.int x1), some (.int x2), some (.int x3)], [], 0, 0)) (M' := (I, J, sm_rf t d)) rfl trivial (sm_W.iteD h (fun hc h => ?_) (fun hc h => ?_))
  · refine sm_W.run (sm_C_mono D) 1 (G := True) (fr' := (38, [some (.ref 61), some (.int x1), some (.int x2), some (.int x3)], [.int x2], 0, 0)) (M' := (I, J, sm_rf t d)) rfl trivial ?_
    cases h
    exact sm_W.ret (sm_C_mono D) rfl hQ
  · refine sm_W.run (sm_C_mono D) 6 (G := True) (fr' := (25, [some (.ref 61), some (.int x1), some (.int x2), some (.int x3)], [.int (0 : Int32), .ref 86, .ref 61, .ref 61, .int x2], 0, 0)) (M' := (I, J, sm_rf t d)) rfl trivial ?_
    obtain ⟨r1, hc, h⟩ := sd_q1_go h
    refine sm_W.cal (sm_C_mono D) (y := 196) (as := [.ref 61, .ref 86, .int (0 : Int32)]) (fr' := (26, [some (.ref 61), some (.int x1), some (.int x2), some (.int x3)], [.ref 61, .int x2], 0, 0)) rfl (T_Mo_areSo (by omega) (by decide) hc ?_)
    show sm_W sm_sh X (sm_C sm_sh X sm_P D) me_251 Q (26, [some (.ref 61), some (.int x1), some (.int x2), some (.int x3)], [.int r1, .ref 61, .int x2], 0, 0) (I, J, sm_rf t d)
    refine sm_W.run (sm_C_mono D) 2 (G := True) (fr' := (28, [some (.ref 61), some (.int x1), some (.int x2), some (.int x3)], [.int (0 : Int32), .int x3, .int r1, .ref 61, .int x2], 0, 0)) (M' := (I, J, sm_rf t d)) rfl trivial ?_
    obtain ⟨r2, hc, h⟩ := sd_q1_go h
    refine sm_W.cal (sm_C_mono D) (y := 199) (as := [.ref 61, .int r1, .int x3, .int (0 : Int32)]) (fr' := (29, [some (.ref 61), some (.int x1), some (.int x2), some (.int x3)], [.int x2], 0, 0)) rfl (T_Mo_ableOf (by omega) hc ?_)
    show sm_W sm_sh X (sm_C sm_sh X sm_P D) me_251 Q (29, [some (.ref 61), some (.int x1), some (.int x2), some (.int x3)], [.int r2, .int x2], 0, 0) (I, J, sm_rf t d)
    refine sm_W.runL (sm_C_mono D) 6 (G := True) (e := (x2 + ((r2 >>> (x1 &&& 31)) &&& (1 : Int32)))) (fr' := fun a3 => (35, [some (.ref 61), some (.int x1), some (.int a3), some (.int x3)], [], 0, 0)) (M' := fun _ => (I, J, sm_rf t d)) rfl h trivial (fun a3 h => ?_)
    refine sm_W.run (sm_C_mono D) 2 (G := True) (fr' := (13, [some (.ref 61), some (.int x1), some (.int a3), some (.int (x3 + (1 : Int32)))], [], 0, 0)) (M' := (I, J, sm_rf t d)) rfl trivial ?_
    exact (hk13 _ _ _ _ h)
theorem G_Mo_rows_13 {X : Nat × (Nat → Int32)} {t d D : Nat} {Q : sm_Q} {J : sm_MJ} {rz : Int32} {Iz : sm_MI}
    (hD : 3 ≤ D) (hQ : Q (.inl (some (.int rz))) (Iz, J, sm_rf t d))  : ∀ (n : Nat) (x1 : Int32) (x2 : Int32) (x3 : Int32) (I : sm_MI), F_Mo_rows_13 n x1 x2 x3 I = some (rz, Iz) → sm_W sm_sh X (sm_C sm_sh X sm_P D) me_251 Q (13, [some (.ref 61), some (.int x1), some (.int x2), some (.int x3)], [], 0, 0) (I, J, sm_rf t d) := by
  intro n
  induction n with
  | zero => intro x1 x2 x3 I h; cases (show (none : Option (Int32 × sm_MI)) = some (rz, Iz) from h)
  | succ n ih => intro x1 x2 x3 I h; exact G_Mo_rows_13B hD (show F_Mo_rows_13B (F_Mo_rows_13 n) x1 x2 x3 I = some (rz, Iz) from h) hQ  ih
theorem G_Mo_rows {X : Nat × (Nat → Int32)} {t d D : Nat} {Q : sm_Q} {I : sm_MI} {J : sm_MJ} {x1 : Int32} {rz : Int32} {Iz : sm_MI}
    (hD : 3 ≤ D) (h : F_Mo_rows x1 I = some (rz, Iz)) (hQ : Q (.inl (some (.int rz))) (Iz, J, sm_rf t d))  : sm_W sm_sh X (sm_C sm_sh X sm_P D) me_251 Q (0, [some (.ref 61), some (.int x1), none, none], [], 0, 0) (I, J, sm_rf t d) := by
  unfold F_Mo_rows at h
  refine sm_W.runL (sm_C_mono D) 3 (G := True) (e := (sd_up I 61 0 (0 : Int32))) (fr' := fun _ => (3, [some (.ref 61), some (.int x1), none, none], [], 0, 0)) (M' := fun I1 => (I1, J, sm_rf t d)) rfl h trivial (fun I1 h => ?_)
  refine sm_W.run (sm_C_mono D) 2 (G := True) (fr' := (5, [some (.ref 61), some (.int x1), none, none], [.int x1, .ref 61], 0, 0)) (M' := (I1, J, sm_rf t d)) rfl trivial ?_
  obtain ⟨r2, I3, hc, h⟩ := sd_q2_go h
  refine sm_W.cal (sm_C_mono D) (y := 204) (as := [.ref 61, .int x1]) (fr' := (6, [some (.ref 61), some (.int x1), none, none], [], 0, 0)) rfl (T_Mo_isSinger (by omega) hc ?_)
  show sm_W sm_sh X (sm_C sm_sh X sm_P D) me_251 Q (6, [some (.ref 61), some (.int x1), none, none], [.int r2], 0, 0) (I3, J, sm_rf t d)
  refine sm_W.run (sm_C_mono D) 1 (G := True) (fr' := (if decide (¬ r2 = 0) = true then 9 else 7, [some (.ref 61), some (.int x1), none, none], [], 0, 0)) (M' := (I3, J, sm_rf t d)) rfl trivial (sm_W.iteD h (fun hc h => ?_) (fun hc h => ?_))
  · refine sm_W.run (sm_C_mono D) 4 (G := True) (fr' := (13, [some (.ref 61), some (.int x1), some (.int (0 : Int32)), some (.int (0 : Int32))], [], 0, 0)) (M' := (I3, J, sm_rf t d)) rfl trivial ?_
    exact (G_Mo_rows_13 hD hQ sd_fu _ _ _ _ h)
  · refine sm_W.run (sm_C_mono D) 1 (G := True) (fr' := (8, [some (.ref 61), some (.int x1), none, none], [.int (0 : Int32)], 0, 0)) (M' := (I3, J, sm_rf t d)) rfl trivial ?_
    cases h
    exact sm_W.ret (sm_C_mono D) rfl hQ
theorem T_Mo_rows {X : Nat × (Nat → Int32)} {t d D : Nat} {Q : sm_Q} {I : sm_MI} {J : sm_MJ} {x1 : Int32} {rz : Int32} {Iz : sm_MI}
    (hD : 4 ≤ D) (h : F_Mo_rows x1 I = some (rz, Iz)) (hQ : Q (.inl (some (.int rz))) (Iz, J, sm_rf t d)) : sm_C sm_sh X sm_P D 251 [.ref 61, .int x1] (I, J, sm_rf t d) Q := by
  cases D with
  | zero => omega
  | succ D => exact sm_C.of (me := me_251) (L := [some (.ref 61), some (.int x1), none, none]) rfl rfl rfl (sm_W.forget (L' := [some (.ref 61), some (.int x1), none, none]) ⟨rfl, ⟨rfl, trivial⟩⟩ (G_Mo_rows (by omega) h hQ))
-- 252 Mo_portion
noncomputable def F_Mo_portion_8B (k8 : Int32 → Int32 → Int32 → Int32 → Int32 → Option (Int32)) (x0 : Int32) (x1 : Int32) (x2 : Int32) (x3 : Int32) (x4 : Int32) : Option (Int32) :=
  if x4 = 0 then
    if ¬ x2 = 0 then
      sd_gu (¬ x3 = 0) <|
      some ((x1 / x3))
    else
      sd_gu (¬ x3 = 0) <|
      some ((x0 / x3))
  else
    sd_gu (¬ x4 = 0) <|
    sd_lt (sd_mod x3 x4) fun a4 =>
    k8 x0 x1 x2 x4 a4
noncomputable def F_Mo_portion_8  (n : Nat) : Int32 → Int32 → Int32 → Int32 → Int32 → Option (Int32) :=
  sd_fix (fun k x0 x1 x2 x3 x4 => F_Mo_portion_8B k x0 x1 x2 x3 x4) (fun _ _ _ _ _ => none) n
noncomputable def F_Mo_portion (x0 : Int32) (x1 : Int32) (x2 : Int32) : Option (Int32) :=
  if ¬ x0 = 0 then
    F_Mo_portion_8 sd_fu x0 x1 x2 x1 x0
  else
    some (x2)
theorem G_Mo_portion_8B {X : Nat × (Nat → Int32)} {t d D : Nat} {Q : sm_Q} {I : sm_MI} {J : sm_MJ} {k8 : Int32 → Int32 → Int32 → Int32 → Int32 → Option (Int32)} {x0 : Int32} {x1 : Int32} {x2 : Int32} {x3 : Int32} {x4 : Int32} {rz : Int32}
    (hD : 0 ≤ D) (h : F_Mo_portion_8B k8 x0 x1 x2 x3 x4 = some (rz)) (hQ : Q (.inl (some (.int rz))) (I, J, sm_rf t d)) (hk8 : ∀ (x0 : Int32) (x1 : Int32) (x2 : Int32) (x3 : Int32) (x4 : Int32), k8 x0 x1 x2 x3 x4 = some (rz) → sm_W sm_sh X (sm_C sm_sh X sm_P D) me_252 Q (8, [some (.int x0), some (.int x1), some (.int x2), some (.int x3), some (.int x4), none], [], 0, 0) (I, J, sm_rf t d)) : sm_W sm_sh X (sm_C sm_sh X sm_P D) me_252 Q (8, [some (.int x0), some (.int x1), some (.int x2), some (.int x3), some (.int x4), none], [], 0, 0) (I, J, sm_rf t d) := by
  unfold F_Mo_portion_8B at h
  refine sm_W.run (sm_C_mono D) 2 (G := True) (fr' := (if decide (x4 = 0) = true then 19 else 10, [some (.int x0), some (.int x1), some (.int x2), some (.int x3), some (.int x4), none], [], 0, 0)) (M' := (I, J, sm_rf t d)) rfl trivial (sm_W.iteD h (fun hc h => ?_) (fun hc h => ?_))
  · refine sm_W.run (sm_C_mono D) 2 (G := True) (fr' := (if decide (¬ x2 = 0) = true then 23 else 21, [some (.int x0), some (.int x1), some (.int x2), some (.int x3), some (.int x4), none], [], 0, 0)) (M' := (I, J, sm_rf t d)) rfl trivial (sm_W.iteD h (fun hc h => ?_) (fun hc h => ?_))
    · obtain ⟨g1, h⟩ := sd_gu_go h
      refine sm_W.run (sm_C_mono D) 3 (G := ¬ x3 = 0 ∧ True) (fr' := (26, [some (.int x0), some (.int x1), some (.int x2), some (.int x3), some (.int x4), none], [.int (x1 / x3)], 0, 0)) (M' := (I, J, sm_rf t d)) rfl ⟨g1, trivial⟩ ?_
      cases h
      exact sm_W.ret (sm_C_mono D) rfl hQ
    · obtain ⟨g2, h⟩ := sd_gu_go h
      refine sm_W.run (sm_C_mono D) 4 (G := ¬ x3 = 0 ∧ True) (fr' := (26, [some (.int x0), some (.int x1), some (.int x2), some (.int x3), some (.int x4), none], [.int (x0 / x3)], 0, 0)) (M' := (I, J, sm_rf t d)) rfl ⟨g2, trivial⟩ ?_
      cases h
      exact sm_W.ret (sm_C_mono D) rfl hQ
  · obtain ⟨g3, h⟩ := sd_gu_go h
    refine sm_W.runL (sm_C_mono D) 4 (G := ¬ x4 = 0 ∧ True) (e := (sd_mod x3 x4)) (fr' := fun a4 => (14, [some (.int x0), some (.int x1), some (.int x2), some (.int x3), some (.int x4), some (.int a4)], [], 0, 0)) (M' := fun _ => (I, J, sm_rf t d)) rfl h ⟨g3, trivial⟩ (fun a4 h => ?_)
    refine sm_W.run (sm_C_mono D) 5 (G := True) (fr' := (8, [some (.int x0), some (.int x1), some (.int x2), some (.int x4), some (.int a4), some (.int a4)], [], 0, 0)) (M' := (I, J, sm_rf t d)) rfl trivial ?_
    exact sm_W.forget (L' := [some (.int x0), some (.int x1), some (.int x2), some (.int x4), some (.int a4), none]) ⟨rfl, ⟨rfl, ⟨rfl, ⟨rfl, ⟨rfl, trivial⟩⟩⟩⟩⟩ (hk8 _ _ _ _ _ h)
theorem G_Mo_portion_8 {X : Nat × (Nat → Int32)} {t d D : Nat} {Q : sm_Q} {I : sm_MI} {J : sm_MJ} {rz : Int32}
    (hD : 0 ≤ D) (hQ : Q (.inl (some (.int rz))) (I, J, sm_rf t d))  : ∀ (n : Nat) (x0 : Int32) (x1 : Int32) (x2 : Int32) (x3 : Int32) (x4 : Int32), F_Mo_portion_8 n x0 x1 x2 x3 x4 = some (rz) → sm_W sm_sh X (sm_C sm_sh X sm_P D) me_252 Q (8, [some (.int x0), some (.int x1), some (.int x2), some (.int x3), some (.int x4), none], [], 0, 0) (I, J, sm_rf t d) := by
  intro n
  induction n with
  | zero => intro x0 x1 x2 x3 x4 h; cases (show (none : Option (Int32)) = some (rz) from h)
  | succ n ih => intro x0 x1 x2 x3 x4 h; exact G_Mo_portion_8B hD (show F_Mo_portion_8B (F_Mo_portion_8 n) x0 x1 x2 x3 x4 = some (rz) from h) hQ  ih
theorem G_Mo_portion {X : Nat × (Nat → Int32)} {t d D : Nat} {Q : sm_Q} {I : sm_MI} {J : sm_MJ} {x0 : Int32} {x1 : Int32} {x2 : Int32} {rz : Int32}
    (hD : 0 ≤ D) (h : F_Mo_portion x0 x1 x2 = some (rz)) (hQ : Q (.inl (some (.int rz))) (I, J, sm_rf t d))  : sm_W sm_sh X (sm_C sm_sh X sm_P D) me_252 Q (0, [some (.int x0), some (.int x1), some (.int x2), none, none, none], [], 0, 0) (I, J, sm_rf t d) := by
  unfold F_Mo_portion at h
  refine sm_W.run (sm_C_mono D) 2 (G := True) (fr' := (if decide (¬ x0 = 0) = true then 4 else 2, [some (.int x0), some (.int x1), some (.int x2), none, none, none], [], 0, 0)) (M' := (I, J, sm_rf t d)) rfl trivial (sm_W.iteD h (fun hc h => ?_) (fun hc h => ?_))
  · refine sm_W.run (sm_C_mono D) 4 (G := True) (fr' := (8, [some (.int x0), some (.int x1), some (.int x2), some (.int x1), some (.int x0), none], [], 0, 0)) (M' := (I, J, sm_rf t d)) rfl trivial ?_
    exact (G_Mo_portion_8 hD hQ sd_fu _ _ _ _ _ h)
  · refine sm_W.run (sm_C_mono D) 1 (G := True) (fr' := (3, [some (.int x0), some (.int x1), some (.int x2), none, none, none], [.int x2], 0, 0)) (M' := (I, J, sm_rf t d)) rfl trivial ?_
    cases h
    exact sm_W.ret (sm_C_mono D) rfl hQ
theorem T_Mo_portion {X : Nat × (Nat → Int32)} {t d D : Nat} {Q : sm_Q} {I : sm_MI} {J : sm_MJ} {x0 : Int32} {x1 : Int32} {x2 : Int32} {rz : Int32}
    (hD : 1 ≤ D) (h : F_Mo_portion x0 x1 x2 = some (rz)) (hQ : Q (.inl (some (.int rz))) (I, J, sm_rf t d)) : sm_C sm_sh X sm_P D 252 [.int x0, .int x1, .int x2] (I, J, sm_rf t d) Q := by
  cases D with
  | zero => omega
  | succ D => exact sm_C.of (me := me_252) (L := [some (.int x0), some (.int x1), some (.int x2), none, none, none]) rfl rfl rfl (sm_W.forget (L' := [some (.int x0), some (.int x1), some (.int x2), none, none, none]) ⟨rfl, ⟨rfl, ⟨rfl, trivial⟩⟩⟩ (G_Mo_portion (by omega) h hQ))
-- 253 Mo_luck
noncomputable def F_Mo_luck_34B (k34 : Int32 → Int32 → Int32 → Int32 → Int32 → Int32 → Int32 → sm_MI → Option (Int32 × sm_MI)) (x1 : Int32) (x2 : Int32) (x3 : Int32) (x4 : Int32) (x5 : Int32) (x6 : Int32) (x7 : Int32) (I : sm_MI) : Option (Int32 × sm_MI) :=
  if ((1 : Int32) <<< ((I 61 1) &&& 31)) ≤ x7 then
    sd_q1 (F_Mo_portion x6 x5 x3) fun r1 =>
    some (r1, I)
  else
    if ¬ (x7 &&& (x4 ^^^ (-1 : Int32))) = 0 then
      k34 x1 x2 x3 x4 x5 x6 (x7 + (1 : Int32)) I
    else
      sd_q1 (F_Mo_bits x7) fun r2 =>
      if r2 = x2 then
        sd_q1 (F_Mo_canBeSung (x4 &&& (x7 ^^^ (-1 : Int32))) x1 (0 : Int32) I) fun r3 =>
        if r3 = 0 then
          sd_lt (x6 + (0 : Int32)) fun a4 =>
          k34 x1 x2 x3 x4 (x5 + (1 : Int32)) a4 (x7 + (1 : Int32)) I
        else
          sd_lt (x6 + (1 : Int32)) fun a5 =>
          k34 x1 x2 x3 x4 (x5 + (1 : Int32)) a5 (x7 + (1 : Int32)) I
      else
        k34 x1 x2 x3 x4 x5 x6 (x7 + (1 : Int32)) I
noncomputable def F_Mo_luck_34  (n : Nat) : Int32 → Int32 → Int32 → Int32 → Int32 → Int32 → Int32 → sm_MI → Option (Int32 × sm_MI) :=
  sd_fix (fun k x1 x2 x3 x4 x5 x6 x7 I => F_Mo_luck_34B k x1 x2 x3 x4 x5 x6 x7 I) (fun _ _ _ _ _ _ _ _ => none) n
noncomputable def F_Mo_luck (x1 : Int32) (x2 : Int32) (x3 : Int32) (I : sm_MI) : Option (Int32 × sm_MI) :=
  sd_lt (sd_up I 61 0 (0 : Int32)) fun I1 =>
  sd_q2 (F_Mo_isPiece x1 I1) fun r2 I3 =>
  if r2 = 0 then
    some ((0 : Int32), I3)
  else
    sd_q2 (F_Mo_isWhat x3 (1 : Int32) I3) fun r4 I5 =>
    if r4 = 0 then
      some ((0 : Int32), I5)
    else
      sd_q1 (F_Mo_within x2 (0 : Int32) (14 : Int32)) fun r6 =>
      sd_q2 (F_Mo_right r6 (2 : Int32) I5) fun r7 I8 =>
      if ¬ r7 = 0 then
        sd_q1 (F_Mo_areSo 86 (0 : Int32) I8) fun r9 =>
        F_Mo_luck_34 sd_fu x1 x2 x3 r9 (0 : Int32) (0 : Int32) (0 : Int32) I8
      else
        some ((0 : Int32), I8)
theorem G_Mo_luck_34B {X : Nat × (Nat → Int32)} {t d D : Nat} {Q : sm_Q} {I : sm_MI} {J : sm_MJ} {k34 : Int32 → Int32 → Int32 → Int32 → Int32 → Int32 → Int32 → sm_MI → Option (Int32 × sm_MI)} {x1 : Int32} {x2 : Int32} {x3 : Int32} {x4 : Int32} {x5 : Int32} {x6 : Int32} {x7 : Int32} {rz : Int32} {Iz : sm_MI}
    (hD : 4 ≤ D) (h : F_Mo_luck_34B k34 x1 x2 x3 x4 x5 x6 x7 I = some (rz, Iz)) (hQ : Q (.inl (some (.int rz))) (Iz, J, sm_rf t d)) (hk34 : ∀ (x1 : Int32) (x2 : Int32) (x3 : Int32) (x4 : Int32) (x5 : Int32) (x6 : Int32) (x7 : Int32) (I : sm_MI), k34 x1 x2 x3 x4 x5 x6 x7 I = some (rz, Iz) → sm_W sm_sh X (sm_C sm_sh X sm_P D) me_253 Q (34, [some (.ref 61), some (.int x1), some (.int x2), some (.int x3), some (.int x4), some (.int x5), some (.int x6), some (.int x7)], [], 0, 0) (I, J, sm_rf t d)) : sm_W sm_sh X (sm_C sm_sh X sm_P D) me_253 Q (34, [some (.ref 61), some (.int x1), some (.int x2), some (.int x3), some (.int x4), some (.int x5), some (.int x6), some (.int x7)], [], 0, 0) (I, J, sm_rf t d) := by
  unfold F_Mo_luck_34B at h
  refine sm_W.run (sm_C_mono D) 6 (G := True) (fr' := (if decide (((1 : Int32) <<< ((I 61 1) &&& 31)) ≤ x7) = true then 70 else 40, [some (.ref 61), some (.int x1), some (.int x2), some (.int x3), some (.int x4), some (.int x5), some (.int x6), some (.int x7)], [], 0, 0)) (M' := (I, J, sm_rf t d)) rfl trivial (sm_W.iteD h (fun hc h => ?_) (fun hc h => ?_))
  · refine sm_W.run (sm_C_mono D) 3 (G := True) (fr' := (73, [some (.ref 61), some (.int x1), some (.int x2), some (.int x3), some (.int x4), some (.int x5), some (.int x6), some (.int x7)], [.int x3, .int x5, .int x6], 0, 0)) (M' := (I, J, sm_rf t d)) rfl trivial ?_
    obtain ⟨r1, hc, h⟩ := sd_q1_go h
    refine sm_W.cal (sm_C_mono D) (y := 252) (as := [.int x6, .int x5, .int x3]) (fr' := (74, [some (.ref 61), some (.int x1), some (.int x2), some (.int x3), some (.int x4), some (.int x5), some (.int x6), some (.int x7)], [], 0, 0)) rfl (T_Mo_portion (by omega) hc ?_)
    show sm_W sm_sh X (sm_C sm_sh X sm_P D) me_253 Q (74, [some (.ref 61), some (.int x1), some (.int x2), some (.int x3), some (.int x4), some (.int x5), some (.int x6), some (.int x7)], [.int r1], 0, 0) (I, J, sm_rf t d)
    cases h
    exact sm_W.ret (sm_C_mono D) rfl hQ
  · refine sm_W.run (sm_C_mono D) 6 (G := True) (fr' := (if decide (¬ (x7 &&& (x4 ^^^ (-1 : Int32))) = 0) = true then 68 else 46, [some (.ref 61), some (.int x1), some (.int x2), some (.int x3), some (.int x4), some (.int x5), some (.int x6), some (.int x7)], [], 0, 0)) (M' := (I, J, sm_rf t d)) rfl trivial (sm_W.iteD h (fun hc h => ?_) (fun hc h => ?_))
    · refine sm_W.run (sm_C_mono D) 2 (G := True) (fr' := (34, [some (.ref 61), some (.int x1), some (.int x2), some (.int x3), some (.int x4), some (.int x5), some (.int x6), some (.int (x7 + (1 : Int32)))], [], 0, 0)) (M' := (I, J, sm_rf t d)) rfl trivial ?_
      exact (hk34 _ _ _ _ _ _ _ _ h)
    · refine sm_W.run (sm_C_mono D) 1 (G := True) (fr' := (47, [some (.ref 61), some (.int x1), some (.int x2), some (.int x3), some (.int x4), some (.int x5), some (.int x6), some (.int x7)], [.int x7], 0, 0)) (M' := (I, J, sm_rf t d)) rfl trivial ?_
      obtain ⟨r2, hc, h⟩ := sd_q1_go h
      refine sm_W.cal (sm_C_mono D) (y := 161) (as := [.int x7]) (fr' := (48, [some (.ref 61), some (.int x1), some (.int x2), some (.int x3), some (.int x4), some (.int x5), some (.int x6), some (.int x7)], [], 0, 0)) rfl (T_Mo_bits (by omega) hc ?_)
      show sm_W sm_sh X (sm_C sm_sh X sm_P D) me_253 Q (48, [some (.ref 61), some (.int x1), some (.int x2), some (.int x3), some (.int x4), some (.int x5), some (.int x6), some (.int x7)], [.int r2], 0, 0) (I, J, sm_rf t d)
      refine sm_W.run (sm_C_mono D) 2 (G := True) (fr' := (if decide (r2 = x2) = true then 51 else 50, [some (.ref 61), some (.int x1), some (.int x2), some (.int x3), some (.int x4), some (.int x5), some (.int x6), some (.int x7)], [], 0, 0)) (M' := (I, J, sm_rf t d)) rfl trivial (sm_W.iteD h (fun hc h => ?_) (fun hc h => ?_))
      · refine sm_W.run (sm_C_mono D) 10 (G := True) (fr' := (61, [some (.ref 61), some (.int x1), some (.int x2), some (.int x3), some (.int x4), some (.int (x5 + (1 : Int32))), some (.int x6), some (.int x7)], [.int (0 : Int32), .int x1, .int (x4 &&& (x7 ^^^ (-1 : Int32))), .ref 61, .int x6], 0, 0)) (M' := (I, J, sm_rf t d)) rfl trivial ?_
        obtain ⟨r3, hc, h⟩ := sd_q1_go h
        refine sm_W.cal (sm_C_mono D) (y := 201) (as := [.ref 61, .int (x4 &&& (x7 ^^^ (-1 : Int32))), .int x1, .int (0 : Int32)]) (fr' := (62, [some (.ref 61), some (.int x1), some (.int x2), some (.int x3), some (.int x4), some (.int (x5 + (1 : Int32))), some (.int x6), some (.int x7)], [.int x6], 0, 0)) rfl (T_Mo_canBeSung (by omega) hc ?_)
        show sm_W sm_sh X (sm_C sm_sh X sm_P D) me_253 Q (62, [some (.ref 61), some (.int x1), some (.int x2), some (.int x3), some (.int x4), some (.int (x5 + (1 : Int32))), some (.int x6), some (.int x7)], [.int r3, .int x6], 0, 0) (I, J, sm_rf t d)
        refine sm_W.run (sm_C_mono D) 1 (G := True) (fr' := (if decide (r3 = 0) = true then 65 else 63, [some (.ref 61), some (.int x1), some (.int x2), some (.int x3), some (.int x4), some (.int (x5 + (1 : Int32))), some (.int x6), some (.int x7)], [.int x6], 0, 0)) (M' := (I, J, sm_rf t d)) rfl trivial (sm_W.iteD h (fun hc h => ?_) (fun hc h => ?_))
        · refine sm_W.runL (sm_C_mono D) 3 (G := True) (e := (x6 + (0 : Int32))) (fr' := fun a4 => (68, [some (.ref 61), some (.int x1), some (.int x2), some (.int x3), some (.int x4), some (.int (x5 + (1 : Int32))), some (.int a4), some (.int x7)], [], 0, 0)) (M' := fun _ => (I, J, sm_rf t d)) rfl h trivial (fun a4 h => ?_)
          refine sm_W.run (sm_C_mono D) 2 (G := True) (fr' := (34, [some (.ref 61), some (.int x1), some (.int x2), some (.int x3), some (.int x4), some (.int (x5 + (1 : Int32))), some (.int a4), some (.int (x7 + (1 : Int32)))], [], 0, 0)) (M' := (I, J, sm_rf t d)) rfl trivial ?_
          exact (hk34 _ _ _ _ _ _ _ _ h)
        · refine sm_W.runL (sm_C_mono D) 4 (G := True) (e := (x6 + (1 : Int32))) (fr' := fun a5 => (68, [some (.ref 61), some (.int x1), some (.int x2), some (.int x3), some (.int x4), some (.int (x5 + (1 : Int32))), some (.int a5), some (.int x7)], [], 0, 0)) (M' := fun _ => (I, J, sm_rf t d)) rfl h trivial (fun a5 h => ?_)
          refine sm_W.run (sm_C_mono D) 2 (G := True) (fr' := (34, [some (.ref 61), some (.int x1), some (.int x2), some (.int x3), some (.int x4), some (.int (x5 + (1 : Int32))), some (.int a5), some (.int (x7 + (1 : Int32)))], [], 0, 0)) (M' := (I, J, sm_rf t d)) rfl trivial ?_
          exact (hk34 _ _ _ _ _ _ _ _ h)
      · refine sm_W.run (sm_C_mono D) 3 (G := True) (fr' := (34, [some (.ref 61), some (.int x1), some (.int x2), some (.int x3), some (.int x4), some (.int x5), some (.int x6), some (.int (x7 + (1 : Int32)))], [], 0, 0)) (M' := (I, J, sm_rf t d)) rfl trivial ?_
        exact (hk34 _ _ _ _ _ _ _ _ h)
theorem G_Mo_luck_34 {X : Nat × (Nat → Int32)} {t d D : Nat} {Q : sm_Q} {J : sm_MJ} {rz : Int32} {Iz : sm_MI}
    (hD : 4 ≤ D) (hQ : Q (.inl (some (.int rz))) (Iz, J, sm_rf t d))  : ∀ (n : Nat) (x1 : Int32) (x2 : Int32) (x3 : Int32) (x4 : Int32) (x5 : Int32) (x6 : Int32) (x7 : Int32) (I : sm_MI), F_Mo_luck_34 n x1 x2 x3 x4 x5 x6 x7 I = some (rz, Iz) → sm_W sm_sh X (sm_C sm_sh X sm_P D) me_253 Q (34, [some (.ref 61), some (.int x1), some (.int x2), some (.int x3), some (.int x4), some (.int x5), some (.int x6), some (.int x7)], [], 0, 0) (I, J, sm_rf t d) := by
  intro n
  induction n with
  | zero => intro x1 x2 x3 x4 x5 x6 x7 I h; cases (show (none : Option (Int32 × sm_MI)) = some (rz, Iz) from h)
  | succ n ih => intro x1 x2 x3 x4 x5 x6 x7 I h; exact G_Mo_luck_34B hD (show F_Mo_luck_34B (F_Mo_luck_34 n) x1 x2 x3 x4 x5 x6 x7 I = some (rz, Iz) from h) hQ  ih
theorem G_Mo_luck {X : Nat × (Nat → Int32)} {t d D : Nat} {Q : sm_Q} {I : sm_MI} {J : sm_MJ} {x1 : Int32} {x2 : Int32} {x3 : Int32} {rz : Int32} {Iz : sm_MI}
    (hD : 4 ≤ D) (h : F_Mo_luck x1 x2 x3 I = some (rz, Iz)) (hQ : Q (.inl (some (.int rz))) (Iz, J, sm_rf t d))  : sm_W sm_sh X (sm_C sm_sh X sm_P D) me_253 Q (0, [some (.ref 61), some (.int x1), some (.int x2), some (.int x3), none, none, none, none], [], 0, 0) (I, J, sm_rf t d) := by
  unfold F_Mo_luck at h
  refine sm_W.runL (sm_C_mono D) 3 (G := True) (e := (sd_up I 61 0 (0 : Int32))) (fr' := fun _ => (3, [some (.ref 61), some (.int x1), some (.int x2), some (.int x3), none, none, none, none], [], 0, 0)) (M' := fun I1 => (I1, J, sm_rf t d)) rfl h trivial (fun I1 h => ?_)
  refine sm_W.run (sm_C_mono D) 2 (G := True) (fr' := (5, [some (.ref 61), some (.int x1), some (.int x2), some (.int x3), none, none, none, none], [.int x1, .ref 61], 0, 0)) (M' := (I1, J, sm_rf t d)) rfl trivial ?_
  obtain ⟨r2, I3, hc, h⟩ := sd_q2_go h
  refine sm_W.cal (sm_C_mono D) (y := 205) (as := [.ref 61, .int x1]) (fr' := (6, [some (.ref 61), some (.int x1), some (.int x2), some (.int x3), none, none, none, none], [], 0, 0)) rfl (T_Mo_isPiece (by omega) hc ?_)
  show sm_W sm_sh X (sm_C sm_sh X sm_P D) me_253 Q (6, [some (.ref 61), some (.int x1), some (.int x2), some (.int x3), none, none, none, none], [.int r2], 0, 0) (I3, J, sm_rf t d)
  refine sm_W.run (sm_C_mono D) 1 (G := True) (fr' := (if decide (r2 = 0) = true then 20 else 7, [some (.ref 61), some (.int x1), some (.int x2), some (.int x3), none, none, none, none], [], 0, 0)) (M' := (I3, J, sm_rf t d)) rfl trivial (sm_W.iteD h (fun hc h => ?_) (fun hc h => ?_))
  · refine sm_W.run (sm_C_mono D) 1 (G := True) (fr' := (21, [some (.ref 61), some (.int x1), some (.int x2), some (.int x3), none, none, none, none], [.int (0 : Int32)], 0, 0)) (M' := (I3, J, sm_rf t d)) rfl trivial ?_
    cases h
    exact sm_W.ret (sm_C_mono D) rfl hQ
  · refine sm_W.run (sm_C_mono D) 3 (G := True) (fr' := (10, [some (.ref 61), some (.int x1), some (.int x2), some (.int x3), none, none, none, none], [.int (1 : Int32), .int x3, .ref 61], 0, 0)) (M' := (I3, J, sm_rf t d)) rfl trivial ?_
    obtain ⟨r4, I5, hc, h⟩ := sd_q2_go h
    refine sm_W.cal (sm_C_mono D) (y := 206) (as := [.ref 61, .int x3, .int (1 : Int32)]) (fr' := (11, [some (.ref 61), some (.int x1), some (.int x2), some (.int x3), none, none, none, none], [], 0, 0)) rfl (T_Mo_isWhat (by omega) hc ?_)
    show sm_W sm_sh X (sm_C sm_sh X sm_P D) me_253 Q (11, [some (.ref 61), some (.int x1), some (.int x2), some (.int x3), none, none, none, none], [.int r4], 0, 0) (I5, J, sm_rf t d)
    refine sm_W.run (sm_C_mono D) 1 (G := True) (fr' := (if decide (r4 = 0) = true then 20 else 12, [some (.ref 61), some (.int x1), some (.int x2), some (.int x3), none, none, none, none], [], 0, 0)) (M' := (I5, J, sm_rf t d)) rfl trivial (sm_W.iteD h (fun hc h => ?_) (fun hc h => ?_))
    · refine sm_W.run (sm_C_mono D) 1 (G := True) (fr' := (21, [some (.ref 61), some (.int x1), some (.int x2), some (.int x3), none, none, none, none], [.int (0 : Int32)], 0, 0)) (M' := (I5, J, sm_rf t d)) rfl trivial ?_
      cases h
      exact sm_W.ret (sm_C_mono D) rfl hQ
    · refine sm_W.run (sm_C_mono D) 4 (G := True) (fr' := (16, [some (.ref 61), some (.int x1), some (.int x2), some (.int x3), none, none, none, none], [.int (14 : Int32), .int (0 : Int32), .int x2, .ref 61], 0, 0)) (M' := (I5, J, sm_rf t d)) rfl trivial ?_
      obtain ⟨r6, hc, h⟩ := sd_q1_go h
      refine sm_W.cal (sm_C_mono D) (y := 159) (as := [.int x2, .int (0 : Int32), .int (14 : Int32)]) (fr' := (17, [some (.ref 61), some (.int x1), some (.int x2), some (.int x3), none, none, none, none], [.ref 61], 0, 0)) rfl (T_Mo_within (by omega) hc ?_)
      show sm_W sm_sh X (sm_C sm_sh X sm_P D) me_253 Q (17, [some (.ref 61), some (.int x1), some (.int x2), some (.int x3), none, none, none, none], [.int r6, .ref 61], 0, 0) (I5, J, sm_rf t d)
      refine sm_W.run (sm_C_mono D) 1 (G := True) (fr' := (18, [some (.ref 61), some (.int x1), some (.int x2), some (.int x3), none, none, none, none], [.int (2 : Int32), .int r6, .ref 61], 0, 0)) (M' := (I5, J, sm_rf t d)) rfl trivial ?_
      obtain ⟨r7, I8, hc, h⟩ := sd_q2_go h
      refine sm_W.cal (sm_C_mono D) (y := 158) (as := [.ref 61, .int r6, .int (2 : Int32)]) (fr' := (19, [some (.ref 61), some (.int x1), some (.int x2), some (.int x3), none, none, none, none], [], 0, 0)) rfl (T_Mo_right (by omega) hc ?_)
      show sm_W sm_sh X (sm_C sm_sh X sm_P D) me_253 Q (19, [some (.ref 61), some (.int x1), some (.int x2), some (.int x3), none, none, none, none], [.int r7], 0, 0) (I8, J, sm_rf t d)
      refine sm_W.run (sm_C_mono D) 1 (G := True) (fr' := (if decide (¬ r7 = 0) = true then 22 else 20, [some (.ref 61), some (.int x1), some (.int x2), some (.int x3), none, none, none, none], [], 0, 0)) (M' := (I8, J, sm_rf t d)) rfl trivial (sm_W.iteD h (fun hc h => ?_) (fun hc h => ?_))
      · refine sm_W.run (sm_C_mono D) 4 (G := True) (fr' := (26, [some (.ref 61), some (.int x1), some (.int x2), some (.int x3), none, none, none, none], [.int (0 : Int32), .ref 86, .ref 61], 0, 0)) (M' := (I8, J, sm_rf t d)) rfl trivial ?_
        obtain ⟨r9, hc, h⟩ := sd_q1_go h
        refine sm_W.cal (sm_C_mono D) (y := 196) (as := [.ref 61, .ref 86, .int (0 : Int32)]) (fr' := (27, [some (.ref 61), some (.int x1), some (.int x2), some (.int x3), none, none, none, none], [], 0, 0)) rfl (T_Mo_areSo (by omega) (by decide) hc ?_)
        show sm_W sm_sh X (sm_C sm_sh X sm_P D) me_253 Q (27, [some (.ref 61), some (.int x1), some (.int x2), some (.int x3), none, none, none, none], [.int r9], 0, 0) (I8, J, sm_rf t d)
        refine sm_W.run (sm_C_mono D) 7 (G := True) (fr' := (34, [some (.ref 61), some (.int x1), some (.int x2), some (.int x3), some (.int r9), some (.int (0 : Int32)), some (.int (0 : Int32)), some (.int (0 : Int32))], [], 0, 0)) (M' := (I8, J, sm_rf t d)) rfl trivial ?_
        exact (G_Mo_luck_34 hD hQ sd_fu _ _ _ _ _ _ _ _ h)
      · refine sm_W.run (sm_C_mono D) 1 (G := True) (fr' := (21, [some (.ref 61), some (.int x1), some (.int x2), some (.int x3), none, none, none, none], [.int (0 : Int32)], 0, 0)) (M' := (I8, J, sm_rf t d)) rfl trivial ?_
        cases h
        exact sm_W.ret (sm_C_mono D) rfl hQ
theorem T_Mo_luck {X : Nat × (Nat → Int32)} {t d D : Nat} {Q : sm_Q} {I : sm_MI} {J : sm_MJ} {x1 : Int32} {x2 : Int32} {x3 : Int32} {rz : Int32} {Iz : sm_MI}
    (hD : 5 ≤ D) (h : F_Mo_luck x1 x2 x3 I = some (rz, Iz)) (hQ : Q (.inl (some (.int rz))) (Iz, J, sm_rf t d)) : sm_C sm_sh X sm_P D 253 [.ref 61, .int x1, .int x2, .int x3] (I, J, sm_rf t d) Q := by
  cases D with
  | zero => omega
  | succ D => exact sm_C.of (me := me_253) (L := [some (.ref 61), some (.int x1), some (.int x2), some (.int x3), none, none, none, none]) rfl rfl rfl (sm_W.forget (L' := [some (.ref 61), some (.int x1), some (.int x2), some (.int x3), none, none, none, none]) ⟨rfl, ⟨rfl, ⟨rfl, ⟨rfl, trivial⟩⟩⟩⟩ (G_Mo_luck (by omega) h hQ))
-- 254 Mo_notesIn
noncomputable def F_Mo_notesIn_6B (k6 : Int32 → Int32 → Int32 → Option (Int32)) (x1 : Int32) (x2 : Int32) (x3 : Int32) (I : sm_MI) : Option (Int32) :=
  if (((4 : Int32) * x1) + (4 : Int32)) ≤ x3 then
    some (x2)
  else
    sd_q1 (F_Mo_notesOf x3 I) fun r1 =>
    sd_lt (x2 + r1) fun a2 =>
    k6 x1 a2 (x3 + (1 : Int32))
noncomputable def F_Mo_notesIn_6 (I : sm_MI) (n : Nat) : Int32 → Int32 → Int32 → Option (Int32) :=
  sd_fix (fun k x1 x2 x3 => F_Mo_notesIn_6B k x1 x2 x3 I) (fun _ _ _ => none) n
noncomputable def F_Mo_notesIn (x1 : Int32) (I : sm_MI) : Option (Int32) :=
  sd_lt ((4 : Int32) * x1) fun a1 =>
  F_Mo_notesIn_6 I sd_fu x1 (0 : Int32) a1
theorem G_Mo_notesIn_6B {X : Nat × (Nat → Int32)} {t d D : Nat} {Q : sm_Q} {I : sm_MI} {J : sm_MJ} {k6 : Int32 → Int32 → Int32 → Option (Int32)} {x1 : Int32} {x2 : Int32} {x3 : Int32} {rz : Int32}
    (hD : 1 ≤ D) (h : F_Mo_notesIn_6B k6 x1 x2 x3 I = some (rz)) (hQ : Q (.inl (some (.int rz))) (I, J, sm_rf t d)) (hk6 : ∀ (x1 : Int32) (x2 : Int32) (x3 : Int32), k6 x1 x2 x3 = some (rz) → sm_W sm_sh X (sm_C sm_sh X sm_P D) me_254 Q (6, [some (.ref 61), some (.int x1), some (.int x2), some (.int x3)], [], 0, 0) (I, J, sm_rf t d)) : sm_W sm_sh X (sm_C sm_sh X sm_P D) me_254 Q (6, [some (.ref 61), some (.int x1), some (.int x2), some (.int x3)], [], 0, 0) (I, J, sm_rf t d) := by
  unfold F_Mo_notesIn_6B at h
  refine sm_W.run (sm_C_mono D) 7 (G := True) (fr' := (if decide ((((4 : Int32) * x1) + (4 : Int32)) ≤ x3) = true then 21 else 13, [some (.ref 61), some (.int x1), some (.int x2), some (.int x3)], [], 0, 0)) (M' := (I, J, sm_rf t d)) rfl trivial (sm_W.iteD h (fun hc h => ?_) (fun hc h => ?_))
  · refine sm_W.run (sm_C_mono D) 1 (G := True) (fr' := (22, [some (.ref 61), some (.int x1), some (.int x2), some (.int x3)], [.int x2], 0, 0)) (M' := (I, J, sm_rf t d)) rfl trivial ?_
    cases h
    exact sm_W.ret (sm_C_mono D) rfl hQ
  · refine sm_W.run (sm_C_mono D) 3 (G := True) (fr' := (16, [some (.ref 61), some (.int x1), some (.int x2), some (.int x3)], [.int x3, .ref 61, .int x2], 0, 0)) (M' := (I, J, sm_rf t d)) rfl trivial ?_
    obtain ⟨r1, hc, h⟩ := sd_q1_go h
    refine sm_W.cal (sm_C_mono D) (y := 208) (as := [.ref 61, .int x3]) (fr' := (17, [some (.ref 61), some (.int x1), some (.int x2), some (.int x3)], [.int x2], 0, 0)) rfl (T_Mo_notesOf (by omega) hc ?_)
    show sm_W sm_sh X (sm_C sm_sh X sm_P D) me_254 Q (17, [some (.ref 61), some (.int x1), some (.int x2), some (.int x3)], [.int r1, .int x2], 0, 0) (I, J, sm_rf t d)
    refine sm_W.runL (sm_C_mono D) 2 (G := True) (e := (x2 + r1)) (fr' := fun a2 => (19, [some (.ref 61), some (.int x1), some (.int a2), some (.int x3)], [], 0, 0)) (M' := fun _ => (I, J, sm_rf t d)) rfl h trivial (fun a2 h => ?_)
    refine sm_W.run (sm_C_mono D) 2 (G := True) (fr' := (6, [some (.ref 61), some (.int x1), some (.int a2), some (.int (x3 + (1 : Int32)))], [], 0, 0)) (M' := (I, J, sm_rf t d)) rfl trivial ?_
    exact (hk6 _ _ _ h)
theorem G_Mo_notesIn_6 {X : Nat × (Nat → Int32)} {t d D : Nat} {Q : sm_Q} {I : sm_MI} {J : sm_MJ} {rz : Int32}
    (hD : 1 ≤ D) (hQ : Q (.inl (some (.int rz))) (I, J, sm_rf t d))  : ∀ (n : Nat) (x1 : Int32) (x2 : Int32) (x3 : Int32), F_Mo_notesIn_6 I n x1 x2 x3 = some (rz) → sm_W sm_sh X (sm_C sm_sh X sm_P D) me_254 Q (6, [some (.ref 61), some (.int x1), some (.int x2), some (.int x3)], [], 0, 0) (I, J, sm_rf t d) := by
  intro n
  induction n with
  | zero => intro x1 x2 x3 h; cases (show (none : Option (Int32)) = some (rz) from h)
  | succ n ih => intro x1 x2 x3 h; exact G_Mo_notesIn_6B hD (show F_Mo_notesIn_6B (F_Mo_notesIn_6 I n) x1 x2 x3 I = some (rz) from h) hQ  ih
theorem G_Mo_notesIn {X : Nat × (Nat → Int32)} {t d D : Nat} {Q : sm_Q} {I : sm_MI} {J : sm_MJ} {x1 : Int32} {rz : Int32}
    (hD : 1 ≤ D) (h : F_Mo_notesIn x1 I = some (rz)) (hQ : Q (.inl (some (.int rz))) (I, J, sm_rf t d))  : sm_W sm_sh X (sm_C sm_sh X sm_P D) me_254 Q (0, [some (.ref 61), some (.int x1), none, none], [], 0, 0) (I, J, sm_rf t d) := by
  unfold F_Mo_notesIn at h
  refine sm_W.runL (sm_C_mono D) 6 (G := True) (e := ((4 : Int32) * x1)) (fr' := fun a1 => (6, [some (.ref 61), some (.int x1), some (.int (0 : Int32)), some (.int a1)], [], 0, 0)) (M' := fun _ => (I, J, sm_rf t d)) rfl h trivial (fun a1 h => ?_)
  exact (G_Mo_notesIn_6 hD hQ sd_fu _ _ _ h)
theorem T_Mo_notesIn {X : Nat × (Nat → Int32)} {t d D : Nat} {Q : sm_Q} {I : sm_MI} {J : sm_MJ} {x1 : Int32} {rz : Int32}
    (hD : 2 ≤ D) (h : F_Mo_notesIn x1 I = some (rz)) (hQ : Q (.inl (some (.int rz))) (I, J, sm_rf t d)) : sm_C sm_sh X sm_P D 254 [.ref 61, .int x1] (I, J, sm_rf t d) Q := by
  cases D with
  | zero => omega
  | succ D => exact sm_C.of (me := me_254) (L := [some (.ref 61), some (.int x1), none, none]) rfl rfl rfl (sm_W.forget (L' := [some (.ref 61), some (.int x1), none, none]) ⟨rfl, ⟨rfl, trivial⟩⟩ (G_Mo_notesIn (by omega) h hQ))
