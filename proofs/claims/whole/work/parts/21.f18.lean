/-! ===== printed by wip/gen/emit_parts.py: what the methods compute ===== -/
-- 275 Law_able
noncomputable def F_Law_able (t : Nat) (x1 : Int32) (x2 : Int32) (I : sm_MI) (J : sm_MJ) : Option (Int32 × sm_MJ) :=
  sd_t1 (F_VM_able t x1 x2 I) (fun r1 =>
    sd_gu (sm_in (0 : Int32) 1 = true) <|
    sd_lt (sd_upJ J 96 0 (Int32.toInt64 r1)) fun J3 =>
    some ((0 : Int32), J3))
    (fun r1 => if r1 = 1 then
    some ((1 : Int32), J)
  else none)
theorem G_Law_able {X : Nat × (Nat → Int32)} {t d D : Nat} {Q : sm_Q} {I : sm_MI} {J : sm_MJ} {x1 : Int32} {x2 : Int32} {rz : Int32} {Jz : sm_MJ}
    (hD : 3 ≤ D) (ht : t = 21 ∨ t = 41) (h : F_Law_able t x1 x2 I J = some (rz, Jz)) (hQ : Q (.inl (some (.int rz))) (I, Jz, sm_rf t d))  : sm_W sm_sh X (sm_C sm_sh X sm_P D) me_275 Q (0, [some (.ref 0), some (.int x1), some (.int x2), some (.ref 96), none], [], 0, 0) (I, J, sm_rf t d) := by
  unfold F_Law_able at h
  rcases ht with rfl | rfl
  · skip
    refine sm_W.run (sm_C_mono D) 5 (G := True) (fr' := (5, [some (.ref 0), some (.int x1), some (.int x2), some (.ref 96), none], [.int x2, .int x1, .ref 0, .int (0 : Int32), .ref 96], 0, 0)) (M' := (I, J, sm_rf 21 d)) rfl trivial ?_
    rcases sd_t1_go h with ⟨r1, hc, h⟩ | ⟨r1, hc, h⟩
    · refine sm_W.cal (sm_C_mono D) (y := 109) (as := [.ref 0, .int x1, .int x2]) (fr' := (6, [some (.ref 0), some (.int x1), some (.int x2), some (.ref 96), none], [.int (0 : Int32), .ref 96], 2, 12)) rfl (T_VM_able (by omega) (by decide) hc (fun _ e => ?_) (fun _ e => by cases e))
      cases e
      show sm_W sm_sh X (sm_C sm_sh X sm_P D) me_275 Q (6, [some (.ref 0), some (.int x1), some (.int x2), some (.ref 96), none], [.int r1, .int (0 : Int32), .ref 96], 2, 12) (I, J, sm_rf 21 d)
      obtain ⟨g2, h⟩ := sd_gu_go h
      refine sm_W.runL (sm_C_mono D) 2 (G := sm_in (0 : Int32) 1 = true ∧ True) (e := (sd_upJ J 96 0 (Int32.toInt64 r1))) (fr' := fun _ => (8, [some (.ref 0), some (.int x1), some (.int x2), some (.ref 96), none], [], 2, 12)) (M' := fun J3 => (I, J3, sm_rf 21 d)) rfl h ⟨g2, trivial⟩ (fun J3 h => ?_)
      refine sm_W.run (sm_C_mono D) 2 (G := True) (fr' := (13, [some (.ref 0), some (.int x1), some (.int x2), some (.ref 96), none], [.int (0 : Int32)], 2, 12)) (M' := (I, J3, sm_rf 21 d)) rfl trivial ?_
      cases h
      exact sm_W.ret (sm_C_mono D) rfl hQ
    · refine sm_W.cal (sm_C_mono D) (y := 109) (as := [.ref 0, .int x1, .int x2]) (fr' := (6, [some (.ref 0), some (.int x1), some (.int x2), some (.ref 96), none], [.int (0 : Int32), .ref 96], 2, 12)) rfl (T_VM_able (by omega) (by decide) hc (fun _ e => by cases e) (fun _ e => ?_))
      cases e
      rcases sd_if_go h with ⟨he, h⟩ | ⟨he, h⟩
      · subst he
        show sm_W sm_sh X (sm_C sm_sh X sm_P D) me_275 Q (10, [some (.ref 0), some (.int x1), some (.int x2), some (.ref 96), none], [], 2, 12) (I, J, sm_rf 21 d)
        refine sm_W.run (sm_C_mono D) 1 (G := True) (fr' := (11, [some (.ref 0), some (.int x1), some (.int x2), some (.ref 96), none], [.int (1 : Int32)], 2, 12)) (M' := (I, J, sm_rf 21 d)) rfl trivial ?_
        cases h
        exact sm_W.ret (sm_C_mono D) rfl hQ
      cases h
  · skip
    refine sm_W.run (sm_C_mono D) 5 (G := True) (fr' := (5, [some (.ref 0), some (.int x1), some (.int x2), some (.ref 96), none], [.int x2, .int x1, .ref 0, .int (0 : Int32), .ref 96], 0, 0)) (M' := (I, J, sm_rf 41 d)) rfl trivial ?_
    rcases sd_t1_go h with ⟨r1, hc, h⟩ | ⟨r1, hc, h⟩
    · refine sm_W.cal (sm_C_mono D) (y := 109) (as := [.ref 0, .int x1, .int x2]) (fr' := (6, [some (.ref 0), some (.int x1), some (.int x2), some (.ref 96), none], [.int (0 : Int32), .ref 96], 2, 12)) rfl (T_VM_able (by omega) (by decide) hc (fun _ e => ?_) (fun _ e => by cases e))
      cases e
      show sm_W sm_sh X (sm_C sm_sh X sm_P D) me_275 Q (6, [some (.ref 0), some (.int x1), some (.int x2), some (.ref 96), none], [.int r1, .int (0 : Int32), .ref 96], 2, 12) (I, J, sm_rf 41 d)
      obtain ⟨g2, h⟩ := sd_gu_go h
      refine sm_W.runL (sm_C_mono D) 2 (G := sm_in (0 : Int32) 1 = true ∧ True) (e := (sd_upJ J 96 0 (Int32.toInt64 r1))) (fr' := fun _ => (8, [some (.ref 0), some (.int x1), some (.int x2), some (.ref 96), none], [], 2, 12)) (M' := fun J3 => (I, J3, sm_rf 41 d)) rfl h ⟨g2, trivial⟩ (fun J3 h => ?_)
      refine sm_W.run (sm_C_mono D) 2 (G := True) (fr' := (13, [some (.ref 0), some (.int x1), some (.int x2), some (.ref 96), none], [.int (0 : Int32)], 2, 12)) (M' := (I, J3, sm_rf 41 d)) rfl trivial ?_
      cases h
      exact sm_W.ret (sm_C_mono D) rfl hQ
    · refine sm_W.cal (sm_C_mono D) (y := 109) (as := [.ref 0, .int x1, .int x2]) (fr' := (6, [some (.ref 0), some (.int x1), some (.int x2), some (.ref 96), none], [.int (0 : Int32), .ref 96], 2, 12)) rfl (T_VM_able (by omega) (by decide) hc (fun _ e => by cases e) (fun _ e => ?_))
      cases e
      rcases sd_if_go h with ⟨he, h⟩ | ⟨he, h⟩
      · subst he
        show sm_W sm_sh X (sm_C sm_sh X sm_P D) me_275 Q (10, [some (.ref 0), some (.int x1), some (.int x2), some (.ref 96), none], [], 2, 12) (I, J, sm_rf 41 d)
        refine sm_W.run (sm_C_mono D) 1 (G := True) (fr' := (11, [some (.ref 0), some (.int x1), some (.int x2), some (.ref 96), none], [.int (1 : Int32)], 2, 12)) (M' := (I, J, sm_rf 41 d)) rfl trivial ?_
        cases h
        exact sm_W.ret (sm_C_mono D) rfl hQ
      cases h
theorem T_Law_able {X : Nat × (Nat → Int32)} {t d D : Nat} {Q : sm_Q} {I : sm_MI} {J : sm_MJ} {x1 : Int32} {x2 : Int32} {rz : Int32} {Jz : sm_MJ}
    (hD : 4 ≤ D) (ht : t = 21 ∨ t = 41) (h : F_Law_able t x1 x2 I J = some (rz, Jz)) (hQ : Q (.inl (some (.int rz))) (I, Jz, sm_rf t d)) : sm_C sm_sh X sm_P D 275 [.ref 0, .int x1, .int x2, .ref 96] (I, J, sm_rf t d) Q := by
  cases D with
  | zero => omega
  | succ D => exact sm_C.of (me := me_275) (L := [some (.ref 0), some (.int x1), some (.int x2), some (.ref 96), none]) rfl rfl rfl (sm_W.forget (L' := [some (.ref 0), some (.int x1), some (.int x2), some (.ref 96), none]) ⟨rfl, ⟨rfl, ⟨rfl, ⟨rfl, trivial⟩⟩⟩⟩ (G_Law_able (by omega) ht h hQ))
-- 276 Law_fall
noncomputable def F_Law_fall (t : Nat) (x1 : Int32) (I : sm_MI) (J : sm_MJ) : Option (Int32 × sm_MI × sm_MJ) :=
  sd_t2 (F_VM_fall t x1 I) (fun r1 I2 =>
    if r1 = 0 then
      sd_gu (sm_in (0 : Int32) 1 = true) <|
      sd_lt (sd_upJ J 96 0 (0 : Int64)) fun J4 =>
      some ((0 : Int32), I2, J4)
    else
      sd_gu (sm_in (0 : Int32) 1 = true) <|
      sd_lt (sd_upJ J 96 0 (1 : Int64)) fun J6 =>
      some ((0 : Int32), I2, J6))
    (fun r1 I2 => if r1 = 1 then
    some ((1 : Int32), I2, J)
  else none)
theorem G_Law_fall {X : Nat × (Nat → Int32)} {t d D : Nat} {Q : sm_Q} {I : sm_MI} {J : sm_MJ} {x1 : Int32} {rz : Int32} {Iz : sm_MI} {Jz : sm_MJ}
    (hD : 4 ≤ D) (ht : t = 21 ∨ t = 41) (h : F_Law_fall t x1 I J = some (rz, Iz, Jz)) (hQ : Q (.inl (some (.int rz))) (Iz, Jz, sm_rf t d))  : sm_W sm_sh X (sm_C sm_sh X sm_P D) me_276 Q (0, [some (.ref 0), some (.int x1), some (.ref 96), none], [], 0, 0) (I, J, sm_rf t d) := by
  unfold F_Law_fall at h
  rcases ht with rfl | rfl
  · skip
    refine sm_W.run (sm_C_mono D) 4 (G := True) (fr' := (4, [some (.ref 0), some (.int x1), some (.ref 96), none], [.int x1, .ref 0, .int (0 : Int32), .ref 96], 0, 0)) (M' := (I, J, sm_rf 21 d)) rfl trivial ?_
    rcases sd_t2_go h with ⟨r1, I2, hc, h⟩ | ⟨r1, I2, hc, h⟩
    · refine sm_W.cal (sm_C_mono D) (y := 114) (as := [.ref 0, .int x1]) (fr' := (5, [some (.ref 0), some (.int x1), some (.ref 96), none], [.int (0 : Int32), .ref 96], 1, 6)) rfl (T_VM_fall (by omega) (by decide) hc (fun _ e => ?_) (fun _ e => by cases e))
      cases e
      show sm_W sm_sh X (sm_C sm_sh X sm_P D) me_276 Q (5, [some (.ref 0), some (.int x1), some (.ref 96), none], [.int r1, .int (0 : Int32), .ref 96], 1, 6) (I2, J, sm_rf 21 d)
      refine sm_W.run (sm_C_mono D) 1 (G := True) (fr' := (if decide (r1 = 0) = true then 8 else 6, [some (.ref 0), some (.int x1), some (.ref 96), none], [.int (0 : Int32), .ref 96], 1, 6)) (M' := (I2, J, sm_rf 21 d)) rfl trivial (sm_W.iteD h (fun hc h => ?_) (fun hc h => ?_))
      · obtain ⟨g3, h⟩ := sd_gu_go h
        refine sm_W.runL (sm_C_mono D) 2 (G := sm_in (0 : Int32) 1 = true ∧ True) (e := (sd_upJ J 96 0 (0 : Int64))) (fr' := fun _ => (10, [some (.ref 0), some (.int x1), some (.ref 96), none], [], 1, 6)) (M' := fun J4 => (I2, J4, sm_rf 21 d)) rfl h ⟨g3, trivial⟩ (fun J4 h => ?_)
        refine sm_W.run (sm_C_mono D) 2 (G := True) (fr' := (15, [some (.ref 0), some (.int x1), some (.ref 96), none], [.int (0 : Int32)], 1, 6)) (M' := (I2, J4, sm_rf 21 d)) rfl trivial ?_
        cases h
        exact sm_W.ret (sm_C_mono D) rfl hQ
      · obtain ⟨g5, h⟩ := sd_gu_go h
        refine sm_W.runL (sm_C_mono D) 3 (G := sm_in (0 : Int32) 1 = true ∧ True) (e := (sd_upJ J 96 0 (1 : Int64))) (fr' := fun _ => (10, [some (.ref 0), some (.int x1), some (.ref 96), none], [], 1, 6)) (M' := fun J6 => (I2, J6, sm_rf 21 d)) rfl h ⟨g5, trivial⟩ (fun J6 h => ?_)
        refine sm_W.run (sm_C_mono D) 2 (G := True) (fr' := (15, [some (.ref 0), some (.int x1), some (.ref 96), none], [.int (0 : Int32)], 1, 6)) (M' := (I2, J6, sm_rf 21 d)) rfl trivial ?_
        cases h
        exact sm_W.ret (sm_C_mono D) rfl hQ
    · refine sm_W.cal (sm_C_mono D) (y := 114) (as := [.ref 0, .int x1]) (fr' := (5, [some (.ref 0), some (.int x1), some (.ref 96), none], [.int (0 : Int32), .ref 96], 1, 6)) rfl (T_VM_fall (by omega) (by decide) hc (fun _ e => by cases e) (fun _ e => ?_))
      cases e
      rcases sd_if_go h with ⟨he, h⟩ | ⟨he, h⟩
      · subst he
        show sm_W sm_sh X (sm_C sm_sh X sm_P D) me_276 Q (12, [some (.ref 0), some (.int x1), some (.ref 96), none], [], 1, 6) (I2, J, sm_rf 21 d)
        refine sm_W.run (sm_C_mono D) 1 (G := True) (fr' := (13, [some (.ref 0), some (.int x1), some (.ref 96), none], [.int (1 : Int32)], 1, 6)) (M' := (I2, J, sm_rf 21 d)) rfl trivial ?_
        cases h
        exact sm_W.ret (sm_C_mono D) rfl hQ
      cases h
  · skip
    refine sm_W.run (sm_C_mono D) 4 (G := True) (fr' := (4, [some (.ref 0), some (.int x1), some (.ref 96), none], [.int x1, .ref 0, .int (0 : Int32), .ref 96], 0, 0)) (M' := (I, J, sm_rf 41 d)) rfl trivial ?_
    rcases sd_t2_go h with ⟨r1, I2, hc, h⟩ | ⟨r1, I2, hc, h⟩
    · refine sm_W.cal (sm_C_mono D) (y := 114) (as := [.ref 0, .int x1]) (fr' := (5, [some (.ref 0), some (.int x1), some (.ref 96), none], [.int (0 : Int32), .ref 96], 1, 6)) rfl (T_VM_fall (by omega) (by decide) hc (fun _ e => ?_) (fun _ e => by cases e))
      cases e
      show sm_W sm_sh X (sm_C sm_sh X sm_P D) me_276 Q (5, [some (.ref 0), some (.int x1), some (.ref 96), none], [.int r1, .int (0 : Int32), .ref 96], 1, 6) (I2, J, sm_rf 41 d)
      refine sm_W.run (sm_C_mono D) 1 (G := True) (fr' := (if decide (r1 = 0) = true then 8 else 6, [some (.ref 0), some (.int x1), some (.ref 96), none], [.int (0 : Int32), .ref 96], 1, 6)) (M' := (I2, J, sm_rf 41 d)) rfl trivial (sm_W.iteD h (fun hc h => ?_) (fun hc h => ?_))
      · obtain ⟨g3, h⟩ := sd_gu_go h
        refine sm_W.runL (sm_C_mono D) 2 (G := sm_in (0 : Int32) 1 = true ∧ True) (e := (sd_upJ J 96 0 (0 : Int64))) (fr' := fun _ => (10, [some (.ref 0), some (.int x1), some (.ref 96), none], [], 1, 6)) (M' := fun J4 => (I2, J4, sm_rf 41 d)) rfl h ⟨g3, trivial⟩ (fun J4 h => ?_)
        refine sm_W.run (sm_C_mono D) 2 (G := True) (fr' := (15, [some (.ref 0), some (.int x1), some (.ref 96), none], [.int (0 : Int32)], 1, 6)) (M' := (I2, J4, sm_rf 41 d)) rfl trivial ?_
        cases h
        exact sm_W.ret (sm_C_mono D) rfl hQ
      · obtain ⟨g5, h⟩ := sd_gu_go h
        refine sm_W.runL (sm_C_mono D) 3 (G := sm_in (0 : Int32) 1 = true ∧ True) (e := (sd_upJ J 96 0 (1 : Int64))) (fr' := fun _ => (10, [some (.ref 0), some (.int x1), some (.ref 96), none], [], 1, 6)) (M' := fun J6 => (I2, J6, sm_rf 41 d)) rfl h ⟨g5, trivial⟩ (fun J6 h => ?_)
        refine sm_W.run (sm_C_mono D) 2 (G := True) (fr' := (15, [some (.ref 0), some (.int x1), some (.ref 96), none], [.int (0 : Int32)], 1, 6)) (M' := (I2, J6, sm_rf 41 d)) rfl trivial ?_
        cases h
        exact sm_W.ret (sm_C_mono D) rfl hQ
    · refine sm_W.cal (sm_C_mono D) (y := 114) (as := [.ref 0, .int x1]) (fr' := (5, [some (.ref 0), some (.int x1), some (.ref 96), none], [.int (0 : Int32), .ref 96], 1, 6)) rfl (T_VM_fall (by omega) (by decide) hc (fun _ e => by cases e) (fun _ e => ?_))
      cases e
      rcases sd_if_go h with ⟨he, h⟩ | ⟨he, h⟩
      · subst he
        show sm_W sm_sh X (sm_C sm_sh X sm_P D) me_276 Q (12, [some (.ref 0), some (.int x1), some (.ref 96), none], [], 1, 6) (I2, J, sm_rf 41 d)
        refine sm_W.run (sm_C_mono D) 1 (G := True) (fr' := (13, [some (.ref 0), some (.int x1), some (.ref 96), none], [.int (1 : Int32)], 1, 6)) (M' := (I2, J, sm_rf 41 d)) rfl trivial ?_
        cases h
        exact sm_W.ret (sm_C_mono D) rfl hQ
      cases h
theorem T_Law_fall {X : Nat × (Nat → Int32)} {t d D : Nat} {Q : sm_Q} {I : sm_MI} {J : sm_MJ} {x1 : Int32} {rz : Int32} {Iz : sm_MI} {Jz : sm_MJ}
    (hD : 5 ≤ D) (ht : t = 21 ∨ t = 41) (h : F_Law_fall t x1 I J = some (rz, Iz, Jz)) (hQ : Q (.inl (some (.int rz))) (Iz, Jz, sm_rf t d)) : sm_C sm_sh X sm_P D 276 [.ref 0, .int x1, .ref 96] (I, J, sm_rf t d) Q := by
  cases D with
  | zero => omega
  | succ D => exact sm_C.of (me := me_276) (L := [some (.ref 0), some (.int x1), some (.ref 96), none]) rfl rfl rfl (sm_W.forget (L' := [some (.ref 0), some (.int x1), some (.ref 96), none]) ⟨rfl, ⟨rfl, ⟨rfl, trivial⟩⟩⟩ (G_Law_fall (by omega) ht h hQ))
-- 277 Law_catches
noncomputable def F_Law_catches (t : Nat) (x1 : Int32) (I : sm_MI) (J : sm_MJ) : Option (Int32 × sm_MI × sm_MJ) :=
  sd_t2 (F_VM_catches t x1 I) (fun r1 I2 =>
    if r1 = 0 then
      sd_gu (sm_in (0 : Int32) 1 = true) <|
      sd_lt (sd_upJ J 96 0 (0 : Int64)) fun J4 =>
      some ((0 : Int32), I2, J4)
    else
      sd_gu (sm_in (0 : Int32) 1 = true) <|
      sd_lt (sd_upJ J 96 0 (1 : Int64)) fun J6 =>
      some ((0 : Int32), I2, J6))
    (fun r1 I2 => if r1 = 1 then
    some ((1 : Int32), I2, J)
  else none)
theorem G_Law_catches {X : Nat × (Nat → Int32)} {t d D : Nat} {Q : sm_Q} {I : sm_MI} {J : sm_MJ} {x1 : Int32} {rz : Int32} {Iz : sm_MI} {Jz : sm_MJ}
    (hD : 4 ≤ D) (ht : t = 21 ∨ t = 41) (h : F_Law_catches t x1 I J = some (rz, Iz, Jz)) (hQ : Q (.inl (some (.int rz))) (Iz, Jz, sm_rf t d))  : sm_W sm_sh X (sm_C sm_sh X sm_P D) me_277 Q (0, [some (.ref 0), some (.int x1), some (.ref 96), none], [], 0, 0) (I, J, sm_rf t d) := by
  unfold F_Law_catches at h
  rcases ht with rfl | rfl
  · skip
    refine sm_W.run (sm_C_mono D) 4 (G := True) (fr' := (4, [some (.ref 0), some (.int x1), some (.ref 96), none], [.int x1, .ref 0, .int (0 : Int32), .ref 96], 0, 0)) (M' := (I, J, sm_rf 21 d)) rfl trivial ?_
    rcases sd_t2_go h with ⟨r1, I2, hc, h⟩ | ⟨r1, I2, hc, h⟩
    · refine sm_W.cal (sm_C_mono D) (y := 115) (as := [.ref 0, .int x1]) (fr' := (5, [some (.ref 0), some (.int x1), some (.ref 96), none], [.int (0 : Int32), .ref 96], 1, 6)) rfl (T_VM_catches (by omega) (by decide) hc (fun _ e => ?_) (fun _ e => by cases e))
      cases e
      show sm_W sm_sh X (sm_C sm_sh X sm_P D) me_277 Q (5, [some (.ref 0), some (.int x1), some (.ref 96), none], [.int r1, .int (0 : Int32), .ref 96], 1, 6) (I2, J, sm_rf 21 d)
      refine sm_W.run (sm_C_mono D) 1 (G := True) (fr' := (if decide (r1 = 0) = true then 8 else 6, [some (.ref 0), some (.int x1), some (.ref 96), none], [.int (0 : Int32), .ref 96], 1, 6)) (M' := (I2, J, sm_rf 21 d)) rfl trivial (sm_W.iteD h (fun hc h => ?_) (fun hc h => ?_))
      · obtain ⟨g3, h⟩ := sd_gu_go h
        refine sm_W.runL (sm_C_mono D) 2 (G := sm_in (0 : Int32) 1 = true ∧ True) (e := (sd_upJ J 96 0 (0 : Int64))) (fr' := fun _ => (10, [some (.ref 0), some (.int x1), some (.ref 96), none], [], 1, 6)) (M' := fun J4 => (I2, J4, sm_rf 21 d)) rfl h ⟨g3, trivial⟩ (fun J4 h => ?_)
        refine sm_W.run (sm_C_mono D) 2 (G := True) (fr' := (15, [some (.ref 0), some (.int x1), some (.ref 96), none], [.int (0 : Int32)], 1, 6)) (M' := (I2, J4, sm_rf 21 d)) rfl trivial ?_
        cases h
        exact sm_W.ret (sm_C_mono D) rfl hQ
      · obtain ⟨g5, h⟩ := sd_gu_go h
        refine sm_W.runL (sm_C_mono D) 3 (G := sm_in (0 : Int32) 1 = true ∧ True) (e := (sd_upJ J 96 0 (1 : Int64))) (fr' := fun _ => (10, [some (.ref 0), some (.int x1), some (.ref 96), none], [], 1, 6)) (M' := fun J6 => (I2, J6, sm_rf 21 d)) rfl h ⟨g5, trivial⟩ (fun J6 h => ?_)
        refine sm_W.run (sm_C_mono D) 2 (G := True) (fr' := (15, [some (.ref 0), some (.int x1), some (.ref 96), none], [.int (0 : Int32)], 1, 6)) (M' := (I2, J6, sm_rf 21 d)) rfl trivial ?_
        cases h
        exact sm_W.ret (sm_C_mono D) rfl hQ
    · refine sm_W.cal (sm_C_mono D) (y := 115) (as := [.ref 0, .int x1]) (fr' := (5, [some (.ref 0), some (.int x1), some (.ref 96), none], [.int (0 : Int32), .ref 96], 1, 6)) rfl (T_VM_catches (by omega) (by decide) hc (fun _ e => by cases e) (fun _ e => ?_))
      cases e
      rcases sd_if_go h with ⟨he, h⟩ | ⟨he, h⟩
      · subst he
        show sm_W sm_sh X (sm_C sm_sh X sm_P D) me_277 Q (12, [some (.ref 0), some (.int x1), some (.ref 96), none], [], 1, 6) (I2, J, sm_rf 21 d)
        refine sm_W.run (sm_C_mono D) 1 (G := True) (fr' := (13, [some (.ref 0), some (.int x1), some (.ref 96), none], [.int (1 : Int32)], 1, 6)) (M' := (I2, J, sm_rf 21 d)) rfl trivial ?_
        cases h
        exact sm_W.ret (sm_C_mono D) rfl hQ
      cases h
  · skip
    refine sm_W.run (sm_C_mono D) 4 (G := True) (fr' := (4, [some (.ref 0), some (.int x1), some (.ref 96), none], [.int x1, .ref 0, .int (0 : Int32), .ref 96], 0, 0)) (M' := (I, J, sm_rf 41 d)) rfl trivial ?_
    rcases sd_t2_go h with ⟨r1, I2, hc, h⟩ | ⟨r1, I2, hc, h⟩
    · refine sm_W.cal (sm_C_mono D) (y := 115) (as := [.ref 0, .int x1]) (fr' := (5, [some (.ref 0), some (.int x1), some (.ref 96), none], [.int (0 : Int32), .ref 96], 1, 6)) rfl (T_VM_catches (by omega) (by decide) hc (fun _ e => ?_) (fun _ e => by cases e))
      cases e
      show sm_W sm_sh X (sm_C sm_sh X sm_P D) me_277 Q (5, [some (.ref 0), some (.int x1), some (.ref 96), none], [.int r1, .int (0 : Int32), .ref 96], 1, 6) (I2, J, sm_rf 41 d)
      refine sm_W.run (sm_C_mono D) 1 (G := True) (fr' := (if decide (r1 = 0) = true then 8 else 6, [some (.ref 0), some (.int x1), some (.ref 96), none], [.int (0 : Int32), .ref 96], 1, 6)) (M' := (I2, J, sm_rf 41 d)) rfl trivial (sm_W.iteD h (fun hc h => ?_) (fun hc h => ?_))
      · obtain ⟨g3, h⟩ := sd_gu_go h
        refine sm_W.runL (sm_C_mono D) 2 (G := sm_in (0 : Int32) 1 = true ∧ True) (e := (sd_upJ J 96 0 (0 : Int64))) (fr' := fun _ => (10, [some (.ref 0), some (.int x1), some (.ref 96), none], [], 1, 6)) (M' := fun J4 => (I2, J4, sm_rf 41 d)) rfl h ⟨g3, trivial⟩ (fun J4 h => ?_)
        refine sm_W.run (sm_C_mono D) 2 (G := True) (fr' := (15, [some (.ref 0), some (.int x1), some (.ref 96), none], [.int (0 : Int32)], 1, 6)) (M' := (I2, J4, sm_rf 41 d)) rfl trivial ?_
        cases h
        exact sm_W.ret (sm_C_mono D) rfl hQ
      · obtain ⟨g5, h⟩ := sd_gu_go h
        refine sm_W.runL (sm_C_mono D) 3 (G := sm_in (0 : Int32) 1 = true ∧ True) (e := (sd_upJ J 96 0 (1 : Int64))) (fr' := fun _ => (10, [some (.ref 0), some (.int x1), some (.ref 96), none], [], 1, 6)) (M' := fun J6 => (I2, J6, sm_rf 41 d)) rfl h ⟨g5, trivial⟩ (fun J6 h => ?_)
        refine sm_W.run (sm_C_mono D) 2 (G := True) (fr' := (15, [some (.ref 0), some (.int x1), some (.ref 96), none], [.int (0 : Int32)], 1, 6)) (M' := (I2, J6, sm_rf 41 d)) rfl trivial ?_
        cases h
        exact sm_W.ret (sm_C_mono D) rfl hQ
    · refine sm_W.cal (sm_C_mono D) (y := 115) (as := [.ref 0, .int x1]) (fr' := (5, [some (.ref 0), some (.int x1), some (.ref 96), none], [.int (0 : Int32), .ref 96], 1, 6)) rfl (T_VM_catches (by omega) (by decide) hc (fun _ e => by cases e) (fun _ e => ?_))
      cases e
      rcases sd_if_go h with ⟨he, h⟩ | ⟨he, h⟩
      · subst he
        show sm_W sm_sh X (sm_C sm_sh X sm_P D) me_277 Q (12, [some (.ref 0), some (.int x1), some (.ref 96), none], [], 1, 6) (I2, J, sm_rf 41 d)
        refine sm_W.run (sm_C_mono D) 1 (G := True) (fr' := (13, [some (.ref 0), some (.int x1), some (.ref 96), none], [.int (1 : Int32)], 1, 6)) (M' := (I2, J, sm_rf 41 d)) rfl trivial ?_
        cases h
        exact sm_W.ret (sm_C_mono D) rfl hQ
      cases h
theorem T_Law_catches {X : Nat × (Nat → Int32)} {t d D : Nat} {Q : sm_Q} {I : sm_MI} {J : sm_MJ} {x1 : Int32} {rz : Int32} {Iz : sm_MI} {Jz : sm_MJ}
    (hD : 5 ≤ D) (ht : t = 21 ∨ t = 41) (h : F_Law_catches t x1 I J = some (rz, Iz, Jz)) (hQ : Q (.inl (some (.int rz))) (Iz, Jz, sm_rf t d)) : sm_C sm_sh X sm_P D 277 [.ref 0, .int x1, .ref 96] (I, J, sm_rf t d) Q := by
  cases D with
  | zero => omega
  | succ D => exact sm_C.of (me := me_277) (L := [some (.ref 0), some (.int x1), some (.ref 96), none]) rfl rfl rfl (sm_W.forget (L' := [some (.ref 0), some (.int x1), some (.ref 96), none]) ⟨rfl, ⟨rfl, ⟨rfl, trivial⟩⟩⟩ (G_Law_catches (by omega) ht h hQ))
-- 278 Law_release
noncomputable def F_Law_release (t : Nat) (x1 : Int32) (I : sm_MI) (J : sm_MJ) : Option (Int32 × sm_MI × sm_MJ) :=
  sd_t2 (F_VM_release t x1 I) (fun r1 I2 =>
    if r1 = 0 then
      sd_gu (sm_in (0 : Int32) 1 = true) <|
      sd_lt (sd_upJ J 96 0 (0 : Int64)) fun J4 =>
      some ((0 : Int32), I2, J4)
    else
      sd_gu (sm_in (0 : Int32) 1 = true) <|
      sd_lt (sd_upJ J 96 0 (1 : Int64)) fun J6 =>
      some ((0 : Int32), I2, J6))
    (fun r1 I2 => if r1 = 1 then
    some ((1 : Int32), I2, J)
  else none)
theorem G_Law_release {X : Nat × (Nat → Int32)} {t d D : Nat} {Q : sm_Q} {I : sm_MI} {J : sm_MJ} {x1 : Int32} {rz : Int32} {Iz : sm_MI} {Jz : sm_MJ}
    (hD : 4 ≤ D) (ht : t = 21 ∨ t = 41) (h : F_Law_release t x1 I J = some (rz, Iz, Jz)) (hQ : Q (.inl (some (.int rz))) (Iz, Jz, sm_rf t d))  : sm_W sm_sh X (sm_C sm_sh X sm_P D) me_278 Q (0, [some (.ref 0), some (.int x1), some (.ref 96), none], [], 0, 0) (I, J, sm_rf t d) := by
  unfold F_Law_release at h
  rcases ht with rfl | rfl
  · skip
    refine sm_W.run (sm_C_mono D) 4 (G := True) (fr' := (4, [some (.ref 0), some (.int x1), some (.ref 96), none], [.int x1, .ref 0, .int (0 : Int32), .ref 96], 0, 0)) (M' := (I, J, sm_rf 21 d)) rfl trivial ?_
    rcases sd_t2_go h with ⟨r1, I2, hc, h⟩ | ⟨r1, I2, hc, h⟩
    · refine sm_W.cal (sm_C_mono D) (y := 116) (as := [.ref 0, .int x1]) (fr' := (5, [some (.ref 0), some (.int x1), some (.ref 96), none], [.int (0 : Int32), .ref 96], 1, 6)) rfl (T_VM_release (by omega) (by decide) hc (fun _ e => ?_) (fun _ e => by cases e))
      cases e
      show sm_W sm_sh X (sm_C sm_sh X sm_P D) me_278 Q (5, [some (.ref 0), some (.int x1), some (.ref 96), none], [.int r1, .int (0 : Int32), .ref 96], 1, 6) (I2, J, sm_rf 21 d)
      refine sm_W.run (sm_C_mono D) 1 (G := True) (fr' := (if decide (r1 = 0) = true then 8 else 6, [some (.ref 0), some (.int x1), some (.ref 96), none], [.int (0 : Int32), .ref 96], 1, 6)) (M' := (I2, J, sm_rf 21 d)) rfl trivial (sm_W.iteD h (fun hc h => ?_) (fun hc h => ?_))
      · obtain ⟨g3, h⟩ := sd_gu_go h
        refine sm_W.runL (sm_C_mono D) 2 (G := sm_in (0 : Int32) 1 = true ∧ True) (e := (sd_upJ J 96 0 (0 : Int64))) (fr' := fun _ => (10, [some (.ref 0), some (.int x1), some (.ref 96), none], [], 1, 6)) (M' := fun J4 => (I2, J4, sm_rf 21 d)) rfl h ⟨g3, trivial⟩ (fun J4 h => ?_)
        refine sm_W.run (sm_C_mono D) 2 (G := True) (fr' := (15, [some (.ref 0), some (.int x1), some (.ref 96), none], [.int (0 : Int32)], 1, 6)) (M' := (I2, J4, sm_rf 21 d)) rfl trivial ?_
        cases h
        exact sm_W.ret (sm_C_mono D) rfl hQ
      · obtain ⟨g5, h⟩ := sd_gu_go h
        refine sm_W.runL (sm_C_mono D) 3 (G := sm_in (0 : Int32) 1 = true ∧ True) (e := (sd_upJ J 96 0 (1 : Int64))) (fr' := fun _ => (10, [some (.ref 0), some (.int x1), some (.ref 96), none], [], 1, 6)) (M' := fun J6 => (I2, J6, sm_rf 21 d)) rfl h ⟨g5, trivial⟩ (fun J6 h => ?_)
        refine sm_W.run (sm_C_mono D) 2 (G := True) (fr' := (15, [some (.ref 0), some (.int x1), some (.ref 96), none], [.int (0 : Int32)], 1, 6)) (M' := (I2, J6, sm_rf 21 d)) rfl trivial ?_
        cases h
        exact sm_W.ret (sm_C_mono D) rfl hQ
    · refine sm_W.cal (sm_C_mono D) (y := 116) (as := [.ref 0, .int x1]) (fr' := (5, [some (.ref 0), some (.int x1), some (.ref 96), none], [.int (0 : Int32), .ref 96], 1, 6)) rfl (T_VM_release (by omega) (by decide) hc (fun _ e => by cases e) (fun _ e => ?_))
      cases e
      rcases sd_if_go h with ⟨he, h⟩ | ⟨he, h⟩
      · subst he
        show sm_W sm_sh X (sm_C sm_sh X sm_P D) me_278 Q (12, [some (.ref 0), some (.int x1), some (.ref 96), none], [], 1, 6) (I2, J, sm_rf 21 d)
        refine sm_W.run (sm_C_mono D) 1 (G := True) (fr' := (13, [some (.ref 0), some (.int x1), some (.ref 96), none], [.int (1 : Int32)], 1, 6)) (M' := (I2, J, sm_rf 21 d)) rfl trivial ?_
        cases h
        exact sm_W.ret (sm_C_mono D) rfl hQ
      cases h
  · skip
    refine sm_W.run (sm_C_mono D) 4 (G := True) (fr' := (4, [some (.ref 0), some (.int x1), some (.ref 96), none], [.int x1, .ref 0, .int (0 : Int32), .ref 96], 0, 0)) (M' := (I, J, sm_rf 41 d)) rfl trivial ?_
    rcases sd_t2_go h with ⟨r1, I2, hc, h⟩ | ⟨r1, I2, hc, h⟩
    · refine sm_W.cal (sm_C_mono D) (y := 116) (as := [.ref 0, .int x1]) (fr' := (5, [some (.ref 0), some (.int x1), some (.ref 96), none], [.int (0 : Int32), .ref 96], 1, 6)) rfl (T_VM_release (by omega) (by decide) hc (fun _ e => ?_) (fun _ e => by cases e))
      cases e
      show sm_W sm_sh X (sm_C sm_sh X sm_P D) me_278 Q (5, [some (.ref 0), some (.int x1), some (.ref 96), none], [.int r1, .int (0 : Int32), .ref 96], 1, 6) (I2, J, sm_rf 41 d)
      refine sm_W.run (sm_C_mono D) 1 (G := True) (fr' := (if decide (r1 = 0) = true then 8 else 6, [some (.ref 0), some (.int x1), some (.ref 96), none], [.int (0 : Int32), .ref 96], 1, 6)) (M' := (I2, J, sm_rf 41 d)) rfl trivial (sm_W.iteD h (fun hc h => ?_) (fun hc h => ?_))
      · obtain ⟨g3, h⟩ := sd_gu_go h
        refine sm_W.runL (sm_C_mono D) 2 (G := sm_in (0 : Int32) 1 = true ∧ True) (e := (sd_upJ J 96 0 (0 : Int64))) (fr' := fun _ => (10, [some (.ref 0), some (.int x1), some (.ref 96), none], [], 1, 6)) (M' := fun J4 => (I2, J4, sm_rf 41 d)) rfl h ⟨g3, trivial⟩ (fun J4 h => ?_)
        refine sm_W.run (sm_C_mono D) 2 (G := True) (fr' := (15, [some (.ref 0), some (.int x1), some (.ref 96), none], [.int (0 : Int32)], 1, 6)) (M' := (I2, J4, sm_rf 41 d)) rfl trivial ?_
        cases h
        exact sm_W.ret (sm_C_mono D) rfl hQ
      · obtain ⟨g5, h⟩ := sd_gu_go h
        refine sm_W.runL (sm_C_mono D) 3 (G := sm_in (0 : Int32) 1 = true ∧ True) (e := (sd_upJ J 96 0 (1 : Int64))) (fr' := fun _ => (10, [some (.ref 0), some (.int x1), some (.ref 96), none], [], 1, 6)) (M' := fun J6 => (I2, J6, sm_rf 41 d)) rfl h ⟨g5, trivial⟩ (fun J6 h => ?_)
        refine sm_W.run (sm_C_mono D) 2 (G := True) (fr' := (15, [some (.ref 0), some (.int x1), some (.ref 96), none], [.int (0 : Int32)], 1, 6)) (M' := (I2, J6, sm_rf 41 d)) rfl trivial ?_
        cases h
        exact sm_W.ret (sm_C_mono D) rfl hQ
    · refine sm_W.cal (sm_C_mono D) (y := 116) (as := [.ref 0, .int x1]) (fr' := (5, [some (.ref 0), some (.int x1), some (.ref 96), none], [.int (0 : Int32), .ref 96], 1, 6)) rfl (T_VM_release (by omega) (by decide) hc (fun _ e => by cases e) (fun _ e => ?_))
      cases e
      rcases sd_if_go h with ⟨he, h⟩ | ⟨he, h⟩
      · subst he
        show sm_W sm_sh X (sm_C sm_sh X sm_P D) me_278 Q (12, [some (.ref 0), some (.int x1), some (.ref 96), none], [], 1, 6) (I2, J, sm_rf 41 d)
        refine sm_W.run (sm_C_mono D) 1 (G := True) (fr' := (13, [some (.ref 0), some (.int x1), some (.ref 96), none], [.int (1 : Int32)], 1, 6)) (M' := (I2, J, sm_rf 41 d)) rfl trivial ?_
        cases h
        exact sm_W.ret (sm_C_mono D) rfl hQ
      cases h
theorem T_Law_release {X : Nat × (Nat → Int32)} {t d D : Nat} {Q : sm_Q} {I : sm_MI} {J : sm_MJ} {x1 : Int32} {rz : Int32} {Iz : sm_MI} {Jz : sm_MJ}
    (hD : 5 ≤ D) (ht : t = 21 ∨ t = 41) (h : F_Law_release t x1 I J = some (rz, Iz, Jz)) (hQ : Q (.inl (some (.int rz))) (Iz, Jz, sm_rf t d)) : sm_C sm_sh X sm_P D 278 [.ref 0, .int x1, .ref 96] (I, J, sm_rf t d) Q := by
  cases D with
  | zero => omega
  | succ D => exact sm_C.of (me := me_278) (L := [some (.ref 0), some (.int x1), some (.ref 96), none]) rfl rfl rfl (sm_W.forget (L' := [some (.ref 0), some (.int x1), some (.ref 96), none]) ⟨rfl, ⟨rfl, ⟨rfl, trivial⟩⟩⟩ (G_Law_release (by omega) ht h hQ))
-- 279 Law_exchange
noncomputable def F_Law_exchange (t : Nat) (x1 : Int32) (x2 : Int32) (I : sm_MI) (J : sm_MJ) : Option (Int32 × sm_MI × sm_MJ) :=
  sd_t2 (F_VM_exchange t x1 x2 I) (fun r1 I2 =>
    if r1 = 0 then
      sd_gu (sm_in (0 : Int32) 1 = true) <|
      sd_lt (sd_upJ J 96 0 (0 : Int64)) fun J4 =>
      some ((0 : Int32), I2, J4)
    else
      sd_gu (sm_in (0 : Int32) 1 = true) <|
      sd_lt (sd_upJ J 96 0 (1 : Int64)) fun J6 =>
      some ((0 : Int32), I2, J6))
    (fun r1 I2 => if r1 = 1 then
    some ((1 : Int32), I2, J)
  else none)
theorem G_Law_exchange {X : Nat × (Nat → Int32)} {t d D : Nat} {Q : sm_Q} {I : sm_MI} {J : sm_MJ} {x1 : Int32} {x2 : Int32} {rz : Int32} {Iz : sm_MI} {Jz : sm_MJ}
    (hD : 4 ≤ D) (ht : t = 21 ∨ t = 41) (h : F_Law_exchange t x1 x2 I J = some (rz, Iz, Jz)) (hQ : Q (.inl (some (.int rz))) (Iz, Jz, sm_rf t d))  : sm_W sm_sh X (sm_C sm_sh X sm_P D) me_279 Q (0, [some (.ref 0), some (.int x1), some (.int x2), some (.ref 96), none], [], 0, 0) (I, J, sm_rf t d) := by
  unfold F_Law_exchange at h
  rcases ht with rfl | rfl
  · skip
    refine sm_W.run (sm_C_mono D) 5 (G := True) (fr' := (5, [some (.ref 0), some (.int x1), some (.int x2), some (.ref 96), none], [.int x2, .int x1, .ref 0, .int (0 : Int32), .ref 96], 0, 0)) (M' := (I, J, sm_rf 21 d)) rfl trivial ?_
    rcases sd_t2_go h with ⟨r1, I2, hc, h⟩ | ⟨r1, I2, hc, h⟩
    · refine sm_W.cal (sm_C_mono D) (y := 117) (as := [.ref 0, .int x1, .int x2]) (fr' := (6, [some (.ref 0), some (.int x1), some (.int x2), some (.ref 96), none], [.int (0 : Int32), .ref 96], 2, 12)) rfl (T_VM_exchange (by omega) (by decide) hc (fun _ e => ?_) (fun _ e => by cases e))
      cases e
      show sm_W sm_sh X (sm_C sm_sh X sm_P D) me_279 Q (6, [some (.ref 0), some (.int x1), some (.int x2), some (.ref 96), none], [.int r1, .int (0 : Int32), .ref 96], 2, 12) (I2, J, sm_rf 21 d)
      refine sm_W.run (sm_C_mono D) 1 (G := True) (fr' := (if decide (r1 = 0) = true then 9 else 7, [some (.ref 0), some (.int x1), some (.int x2), some (.ref 96), none], [.int (0 : Int32), .ref 96], 2, 12)) (M' := (I2, J, sm_rf 21 d)) rfl trivial (sm_W.iteD h (fun hc h => ?_) (fun hc h => ?_))
      · obtain ⟨g3, h⟩ := sd_gu_go h
        refine sm_W.runL (sm_C_mono D) 2 (G := sm_in (0 : Int32) 1 = true ∧ True) (e := (sd_upJ J 96 0 (0 : Int64))) (fr' := fun _ => (11, [some (.ref 0), some (.int x1), some (.int x2), some (.ref 96), none], [], 2, 12)) (M' := fun J4 => (I2, J4, sm_rf 21 d)) rfl h ⟨g3, trivial⟩ (fun J4 h => ?_)
        refine sm_W.run (sm_C_mono D) 2 (G := True) (fr' := (16, [some (.ref 0), some (.int x1), some (.int x2), some (.ref 96), none], [.int (0 : Int32)], 2, 12)) (M' := (I2, J4, sm_rf 21 d)) rfl trivial ?_
        cases h
        exact sm_W.ret (sm_C_mono D) rfl hQ
      · obtain ⟨g5, h⟩ := sd_gu_go h
        refine sm_W.runL (sm_C_mono D) 3 (G := sm_in (0 : Int32) 1 = true ∧ True) (e := (sd_upJ J 96 0 (1 : Int64))) (fr' := fun _ => (11, [some (.ref 0), some (.int x1), some (.int x2), some (.ref 96), none], [], 2, 12)) (M' := fun J6 => (I2, J6, sm_rf 21 d)) rfl h ⟨g5, trivial⟩ (fun J6 h => ?_)
        refine sm_W.run (sm_C_mono D) 2 (G := True) (fr' := (16, [some (.ref 0), some (.int x1), some (.int x2), some (.ref 96), none], [.int (0 : Int32)], 2, 12)) (M' := (I2, J6, sm_rf 21 d)) rfl trivial ?_
        cases h
        exact sm_W.ret (sm_C_mono D) rfl hQ
    · refine sm_W.cal (sm_C_mono D) (y := 117) (as := [.ref 0, .int x1, .int x2]) (fr' := (6, [some (.ref 0), some (.int x1), some (.int x2), some (.ref 96), none], [.int (0 : Int32), .ref 96], 2, 12)) rfl (T_VM_exchange (by omega) (by decide) hc (fun _ e => by cases e) (fun _ e => ?_))
      cases e
      rcases sd_if_go h with ⟨he, h⟩ | ⟨he, h⟩
      · subst he
        show sm_W sm_sh X (sm_C sm_sh X sm_P D) me_279 Q (13, [some (.ref 0), some (.int x1), some (.int x2), some (.ref 96), none], [], 2, 12) (I2, J, sm_rf 21 d)
        refine sm_W.run (sm_C_mono D) 1 (G := True) (fr' := (14, [some (.ref 0), some (.int x1), some (.int x2), some (.ref 96), none], [.int (1 : Int32)], 2, 12)) (M' := (I2, J, sm_rf 21 d)) rfl trivial ?_
        cases h
        exact sm_W.ret (sm_C_mono D) rfl hQ
      cases h
  · skip
    refine sm_W.run (sm_C_mono D) 5 (G := True) (fr' := (5, [some (.ref 0), some (.int x1), some (.int x2), some (.ref 96), none], [.int x2, .int x1, .ref 0, .int (0 : Int32), .ref 96], 0, 0)) (M' := (I, J, sm_rf 41 d)) rfl trivial ?_
    rcases sd_t2_go h with ⟨r1, I2, hc, h⟩ | ⟨r1, I2, hc, h⟩
    · refine sm_W.cal (sm_C_mono D) (y := 117) (as := [.ref 0, .int x1, .int x2]) (fr' := (6, [some (.ref 0), some (.int x1), some (.int x2), some (.ref 96), none], [.int (0 : Int32), .ref 96], 2, 12)) rfl (T_VM_exchange (by omega) (by decide) hc (fun _ e => ?_) (fun _ e => by cases e))
      cases e
      show sm_W sm_sh X (sm_C sm_sh X sm_P D) me_279 Q (6, [some (.ref 0), some (.int x1), some (.int x2), some (.ref 96), none], [.int r1, .int (0 : Int32), .ref 96], 2, 12) (I2, J, sm_rf 41 d)
      refine sm_W.run (sm_C_mono D) 1 (G := True) (fr' := (if decide (r1 = 0) = true then 9 else 7, [some (.ref 0), some (.int x1), some (.int x2), some (.ref 96), none], [.int (0 : Int32), .ref 96], 2, 12)) (M' := (I2, J, sm_rf 41 d)) rfl trivial (sm_W.iteD h (fun hc h => ?_) (fun hc h => ?_))
      · obtain ⟨g3, h⟩ := sd_gu_go h
        refine sm_W.runL (sm_C_mono D) 2 (G := sm_in (0 : Int32) 1 = true ∧ True) (e := (sd_upJ J 96 0 (0 : Int64))) (fr' := fun _ => (11, [some (.ref 0), some (.int x1), some (.int x2), some (.ref 96), none], [], 2, 12)) (M' := fun J4 => (I2, J4, sm_rf 41 d)) rfl h ⟨g3, trivial⟩ (fun J4 h => ?_)
        refine sm_W.run (sm_C_mono D) 2 (G := True) (fr' := (16, [some (.ref 0), some (.int x1), some (.int x2), some (.ref 96), none], [.int (0 : Int32)], 2, 12)) (M' := (I2, J4, sm_rf 41 d)) rfl trivial ?_
        cases h
        exact sm_W.ret (sm_C_mono D) rfl hQ
      · obtain ⟨g5, h⟩ := sd_gu_go h
        refine sm_W.runL (sm_C_mono D) 3 (G := sm_in (0 : Int32) 1 = true ∧ True) (e := (sd_upJ J 96 0 (1 : Int64))) (fr' := fun _ => (11, [some (.ref 0), some (.int x1), some (.int x2), some (.ref 96), none], [], 2, 12)) (M' := fun J6 => (I2, J6, sm_rf 41 d)) rfl h ⟨g5, trivial⟩ (fun J6 h => ?_)
        refine sm_W.run (sm_C_mono D) 2 (G := True) (fr' := (16, [some (.ref 0), some (.int x1), some (.int x2), some (.ref 96), none], [.int (0 : Int32)], 2, 12)) (M' := (I2, J6, sm_rf 41 d)) rfl trivial ?_
        cases h
        exact sm_W.ret (sm_C_mono D) rfl hQ
    · refine sm_W.cal (sm_C_mono D) (y := 117) (as := [.ref 0, .int x1, .int x2]) (fr' := (6, [some (.ref 0), some (.int x1), some (.int x2), some (.ref 96), none], [.int (0 : Int32), .ref 96], 2, 12)) rfl (T_VM_exchange (by omega) (by decide) hc (fun _ e => by cases e) (fun _ e => ?_))
      cases e
      rcases sd_if_go h with ⟨he, h⟩ | ⟨he, h⟩
      · subst he
        show sm_W sm_sh X (sm_C sm_sh X sm_P D) me_279 Q (13, [some (.ref 0), some (.int x1), some (.int x2), some (.ref 96), none], [], 2, 12) (I2, J, sm_rf 41 d)
        refine sm_W.run (sm_C_mono D) 1 (G := True) (fr' := (14, [some (.ref 0), some (.int x1), some (.int x2), some (.ref 96), none], [.int (1 : Int32)], 2, 12)) (M' := (I2, J, sm_rf 41 d)) rfl trivial ?_
        cases h
        exact sm_W.ret (sm_C_mono D) rfl hQ
      cases h
theorem T_Law_exchange {X : Nat × (Nat → Int32)} {t d D : Nat} {Q : sm_Q} {I : sm_MI} {J : sm_MJ} {x1 : Int32} {x2 : Int32} {rz : Int32} {Iz : sm_MI} {Jz : sm_MJ}
    (hD : 5 ≤ D) (ht : t = 21 ∨ t = 41) (h : F_Law_exchange t x1 x2 I J = some (rz, Iz, Jz)) (hQ : Q (.inl (some (.int rz))) (Iz, Jz, sm_rf t d)) : sm_C sm_sh X sm_P D 279 [.ref 0, .int x1, .int x2, .ref 96] (I, J, sm_rf t d) Q := by
  cases D with
  | zero => omega
  | succ D => exact sm_C.of (me := me_279) (L := [some (.ref 0), some (.int x1), some (.int x2), some (.ref 96), none]) rfl rfl rfl (sm_W.forget (L' := [some (.ref 0), some (.int x1), some (.int x2), some (.ref 96), none]) ⟨rfl, ⟨rfl, ⟨rfl, ⟨rfl, trivial⟩⟩⟩⟩ (G_Law_exchange (by omega) ht h hQ))
-- 280 Law_moved
noncomputable def F_Law_moved (t : Nat) (x1 : Int32) (I : sm_MI) (J : sm_MJ) : Option (Int32 × sm_MJ) :=
  sd_t1 (F_VM_moved t x1 I) (fun r1 =>
    sd_gu (sm_in (0 : Int32) 1 = true) <|
    sd_lt (sd_upJ J 96 0 (Int32.toInt64 r1)) fun J3 =>
    some ((0 : Int32), J3))
    (fun r1 => if r1 = 1 then
    some ((1 : Int32), J)
  else none)
theorem G_Law_moved {X : Nat × (Nat → Int32)} {t d D : Nat} {Q : sm_Q} {I : sm_MI} {J : sm_MJ} {x1 : Int32} {rz : Int32} {Jz : sm_MJ}
    (hD : 5 ≤ D) (ht : t = 21 ∨ t = 41) (h : F_Law_moved t x1 I J = some (rz, Jz)) (hQ : Q (.inl (some (.int rz))) (I, Jz, sm_rf t d))  : sm_W sm_sh X (sm_C sm_sh X sm_P D) me_280 Q (0, [some (.ref 0), some (.int x1), some (.ref 96), none], [], 0, 0) (I, J, sm_rf t d) := by
  unfold F_Law_moved at h
  rcases ht with rfl | rfl
  · skip
    refine sm_W.run (sm_C_mono D) 4 (G := True) (fr' := (4, [some (.ref 0), some (.int x1), some (.ref 96), none], [.int x1, .ref 0, .int (0 : Int32), .ref 96], 0, 0)) (M' := (I, J, sm_rf 21 d)) rfl trivial ?_
    rcases sd_t1_go h with ⟨r1, hc, h⟩ | ⟨r1, hc, h⟩
    · refine sm_W.cal (sm_C_mono D) (y := 122) (as := [.ref 0, .int x1]) (fr' := (5, [some (.ref 0), some (.int x1), some (.ref 96), none], [.int (0 : Int32), .ref 96], 1, 6)) rfl (T_VM_moved (by omega) (by decide) hc (fun _ e => ?_) (fun _ e => by cases e))
      cases e
      show sm_W sm_sh X (sm_C sm_sh X sm_P D) me_280 Q (5, [some (.ref 0), some (.int x1), some (.ref 96), none], [.int r1, .int (0 : Int32), .ref 96], 1, 6) (I, J, sm_rf 21 d)
      obtain ⟨g2, h⟩ := sd_gu_go h
      refine sm_W.runL (sm_C_mono D) 2 (G := sm_in (0 : Int32) 1 = true ∧ True) (e := (sd_upJ J 96 0 (Int32.toInt64 r1))) (fr' := fun _ => (7, [some (.ref 0), some (.int x1), some (.ref 96), none], [], 1, 6)) (M' := fun J3 => (I, J3, sm_rf 21 d)) rfl h ⟨g2, trivial⟩ (fun J3 h => ?_)
      refine sm_W.run (sm_C_mono D) 2 (G := True) (fr' := (12, [some (.ref 0), some (.int x1), some (.ref 96), none], [.int (0 : Int32)], 1, 6)) (M' := (I, J3, sm_rf 21 d)) rfl trivial ?_
      cases h
      exact sm_W.ret (sm_C_mono D) rfl hQ
    · refine sm_W.cal (sm_C_mono D) (y := 122) (as := [.ref 0, .int x1]) (fr' := (5, [some (.ref 0), some (.int x1), some (.ref 96), none], [.int (0 : Int32), .ref 96], 1, 6)) rfl (T_VM_moved (by omega) (by decide) hc (fun _ e => by cases e) (fun _ e => ?_))
      cases e
      rcases sd_if_go h with ⟨he, h⟩ | ⟨he, h⟩
      · subst he
        show sm_W sm_sh X (sm_C sm_sh X sm_P D) me_280 Q (9, [some (.ref 0), some (.int x1), some (.ref 96), none], [], 1, 6) (I, J, sm_rf 21 d)
        refine sm_W.run (sm_C_mono D) 1 (G := True) (fr' := (10, [some (.ref 0), some (.int x1), some (.ref 96), none], [.int (1 : Int32)], 1, 6)) (M' := (I, J, sm_rf 21 d)) rfl trivial ?_
        cases h
        exact sm_W.ret (sm_C_mono D) rfl hQ
      cases h
  · skip
    refine sm_W.run (sm_C_mono D) 4 (G := True) (fr' := (4, [some (.ref 0), some (.int x1), some (.ref 96), none], [.int x1, .ref 0, .int (0 : Int32), .ref 96], 0, 0)) (M' := (I, J, sm_rf 41 d)) rfl trivial ?_
    rcases sd_t1_go h with ⟨r1, hc, h⟩ | ⟨r1, hc, h⟩
    · refine sm_W.cal (sm_C_mono D) (y := 122) (as := [.ref 0, .int x1]) (fr' := (5, [some (.ref 0), some (.int x1), some (.ref 96), none], [.int (0 : Int32), .ref 96], 1, 6)) rfl (T_VM_moved (by omega) (by decide) hc (fun _ e => ?_) (fun _ e => by cases e))
      cases e
      show sm_W sm_sh X (sm_C sm_sh X sm_P D) me_280 Q (5, [some (.ref 0), some (.int x1), some (.ref 96), none], [.int r1, .int (0 : Int32), .ref 96], 1, 6) (I, J, sm_rf 41 d)
      obtain ⟨g2, h⟩ := sd_gu_go h
      refine sm_W.runL (sm_C_mono D) 2 (G := sm_in (0 : Int32) 1 = true ∧ True) (e := (sd_upJ J 96 0 (Int32.toInt64 r1))) (fr' := fun _ => (7, [some (.ref 0), some (.int x1), some (.ref 96), none], [], 1, 6)) (M' := fun J3 => (I, J3, sm_rf 41 d)) rfl h ⟨g2, trivial⟩ (fun J3 h => ?_)
      refine sm_W.run (sm_C_mono D) 2 (G := True) (fr' := (12, [some (.ref 0), some (.int x1), some (.ref 96), none], [.int (0 : Int32)], 1, 6)) (M' := (I, J3, sm_rf 41 d)) rfl trivial ?_
      cases h
      exact sm_W.ret (sm_C_mono D) rfl hQ
    · refine sm_W.cal (sm_C_mono D) (y := 122) (as := [.ref 0, .int x1]) (fr' := (5, [some (.ref 0), some (.int x1), some (.ref 96), none], [.int (0 : Int32), .ref 96], 1, 6)) rfl (T_VM_moved (by omega) (by decide) hc (fun _ e => by cases e) (fun _ e => ?_))
      cases e
      rcases sd_if_go h with ⟨he, h⟩ | ⟨he, h⟩
      · subst he
        show sm_W sm_sh X (sm_C sm_sh X sm_P D) me_280 Q (9, [some (.ref 0), some (.int x1), some (.ref 96), none], [], 1, 6) (I, J, sm_rf 41 d)
        refine sm_W.run (sm_C_mono D) 1 (G := True) (fr' := (10, [some (.ref 0), some (.int x1), some (.ref 96), none], [.int (1 : Int32)], 1, 6)) (M' := (I, J, sm_rf 41 d)) rfl trivial ?_
        cases h
        exact sm_W.ret (sm_C_mono D) rfl hQ
      cases h
theorem T_Law_moved {X : Nat × (Nat → Int32)} {t d D : Nat} {Q : sm_Q} {I : sm_MI} {J : sm_MJ} {x1 : Int32} {rz : Int32} {Jz : sm_MJ}
    (hD : 6 ≤ D) (ht : t = 21 ∨ t = 41) (h : F_Law_moved t x1 I J = some (rz, Jz)) (hQ : Q (.inl (some (.int rz))) (I, Jz, sm_rf t d)) : sm_C sm_sh X sm_P D 280 [.ref 0, .int x1, .ref 96] (I, J, sm_rf t d) Q := by
  cases D with
  | zero => omega
  | succ D => exact sm_C.of (me := me_280) (L := [some (.ref 0), some (.int x1), some (.ref 96), none]) rfl rfl rfl (sm_W.forget (L' := [some (.ref 0), some (.int x1), some (.ref 96), none]) ⟨rfl, ⟨rfl, ⟨rfl, trivial⟩⟩⟩ (G_Law_moved (by omega) ht h hQ))
-- 281 Law_spare
noncomputable def F_Law_spare (t : Nat) (x1 : Int32) (I : sm_MI) (J : sm_MJ) : Option (Int32 × sm_MJ) :=
  sd_t1 (F_VM_spare t x1 I) (fun r1 =>
    sd_gu (sm_in (0 : Int32) 1 = true) <|
    sd_lt (sd_upJ J 96 0 (Int32.toInt64 r1)) fun J3 =>
    some ((0 : Int32), J3))
    (fun r1 => if r1 = 1 then
    some ((1 : Int32), J)
  else none)
theorem G_Law_spare {X : Nat × (Nat → Int32)} {t d D : Nat} {Q : sm_Q} {I : sm_MI} {J : sm_MJ} {x1 : Int32} {rz : Int32} {Jz : sm_MJ}
    (hD : 4 ≤ D) (ht : t = 21 ∨ t = 41) (h : F_Law_spare t x1 I J = some (rz, Jz)) (hQ : Q (.inl (some (.int rz))) (I, Jz, sm_rf t d))  : sm_W sm_sh X (sm_C sm_sh X sm_P D) me_281 Q (0, [some (.ref 0), some (.int x1), some (.ref 96), none], [], 0, 0) (I, J, sm_rf t d) := by
  unfold F_Law_spare at h
  rcases ht with rfl | rfl
  · skip
    refine sm_W.run (sm_C_mono D) 4 (G := True) (fr' := (4, [some (.ref 0), some (.int x1), some (.ref 96), none], [.int x1, .ref 0, .int (0 : Int32), .ref 96], 0, 0)) (M' := (I, J, sm_rf 21 d)) rfl trivial ?_
    rcases sd_t1_go h with ⟨r1, hc, h⟩ | ⟨r1, hc, h⟩
    · refine sm_W.cal (sm_C_mono D) (y := 123) (as := [.ref 0, .int x1]) (fr' := (5, [some (.ref 0), some (.int x1), some (.ref 96), none], [.int (0 : Int32), .ref 96], 1, 6)) rfl (T_VM_spare (by omega) (by decide) hc (fun _ e => ?_) (fun _ e => by cases e))
      cases e
      show sm_W sm_sh X (sm_C sm_sh X sm_P D) me_281 Q (5, [some (.ref 0), some (.int x1), some (.ref 96), none], [.int r1, .int (0 : Int32), .ref 96], 1, 6) (I, J, sm_rf 21 d)
      obtain ⟨g2, h⟩ := sd_gu_go h
      refine sm_W.runL (sm_C_mono D) 2 (G := sm_in (0 : Int32) 1 = true ∧ True) (e := (sd_upJ J 96 0 (Int32.toInt64 r1))) (fr' := fun _ => (7, [some (.ref 0), some (.int x1), some (.ref 96), none], [], 1, 6)) (M' := fun J3 => (I, J3, sm_rf 21 d)) rfl h ⟨g2, trivial⟩ (fun J3 h => ?_)
      refine sm_W.run (sm_C_mono D) 2 (G := True) (fr' := (12, [some (.ref 0), some (.int x1), some (.ref 96), none], [.int (0 : Int32)], 1, 6)) (M' := (I, J3, sm_rf 21 d)) rfl trivial ?_
      cases h
      exact sm_W.ret (sm_C_mono D) rfl hQ
    · refine sm_W.cal (sm_C_mono D) (y := 123) (as := [.ref 0, .int x1]) (fr' := (5, [some (.ref 0), some (.int x1), some (.ref 96), none], [.int (0 : Int32), .ref 96], 1, 6)) rfl (T_VM_spare (by omega) (by decide) hc (fun _ e => by cases e) (fun _ e => ?_))
      cases e
      rcases sd_if_go h with ⟨he, h⟩ | ⟨he, h⟩
      · subst he
        show sm_W sm_sh X (sm_C sm_sh X sm_P D) me_281 Q (9, [some (.ref 0), some (.int x1), some (.ref 96), none], [], 1, 6) (I, J, sm_rf 21 d)
        refine sm_W.run (sm_C_mono D) 1 (G := True) (fr' := (10, [some (.ref 0), some (.int x1), some (.ref 96), none], [.int (1 : Int32)], 1, 6)) (M' := (I, J, sm_rf 21 d)) rfl trivial ?_
        cases h
        exact sm_W.ret (sm_C_mono D) rfl hQ
      cases h
  · skip
    refine sm_W.run (sm_C_mono D) 4 (G := True) (fr' := (4, [some (.ref 0), some (.int x1), some (.ref 96), none], [.int x1, .ref 0, .int (0 : Int32), .ref 96], 0, 0)) (M' := (I, J, sm_rf 41 d)) rfl trivial ?_
    rcases sd_t1_go h with ⟨r1, hc, h⟩ | ⟨r1, hc, h⟩
    · refine sm_W.cal (sm_C_mono D) (y := 123) (as := [.ref 0, .int x1]) (fr' := (5, [some (.ref 0), some (.int x1), some (.ref 96), none], [.int (0 : Int32), .ref 96], 1, 6)) rfl (T_VM_spare (by omega) (by decide) hc (fun _ e => ?_) (fun _ e => by cases e))
      cases e
      show sm_W sm_sh X (sm_C sm_sh X sm_P D) me_281 Q (5, [some (.ref 0), some (.int x1), some (.ref 96), none], [.int r1, .int (0 : Int32), .ref 96], 1, 6) (I, J, sm_rf 41 d)
      obtain ⟨g2, h⟩ := sd_gu_go h
      refine sm_W.runL (sm_C_mono D) 2 (G := sm_in (0 : Int32) 1 = true ∧ True) (e := (sd_upJ J 96 0 (Int32.toInt64 r1))) (fr' := fun _ => (7, [some (.ref 0), some (.int x1), some (.ref 96), none], [], 1, 6)) (M' := fun J3 => (I, J3, sm_rf 41 d)) rfl h ⟨g2, trivial⟩ (fun J3 h => ?_)
      refine sm_W.run (sm_C_mono D) 2 (G := True) (fr' := (12, [some (.ref 0), some (.int x1), some (.ref 96), none], [.int (0 : Int32)], 1, 6)) (M' := (I, J3, sm_rf 41 d)) rfl trivial ?_
      cases h
      exact sm_W.ret (sm_C_mono D) rfl hQ
    · refine sm_W.cal (sm_C_mono D) (y := 123) (as := [.ref 0, .int x1]) (fr' := (5, [some (.ref 0), some (.int x1), some (.ref 96), none], [.int (0 : Int32), .ref 96], 1, 6)) rfl (T_VM_spare (by omega) (by decide) hc (fun _ e => by cases e) (fun _ e => ?_))
      cases e
      rcases sd_if_go h with ⟨he, h⟩ | ⟨he, h⟩
      · subst he
        show sm_W sm_sh X (sm_C sm_sh X sm_P D) me_281 Q (9, [some (.ref 0), some (.int x1), some (.ref 96), none], [], 1, 6) (I, J, sm_rf 41 d)
        refine sm_W.run (sm_C_mono D) 1 (G := True) (fr' := (10, [some (.ref 0), some (.int x1), some (.ref 96), none], [.int (1 : Int32)], 1, 6)) (M' := (I, J, sm_rf 41 d)) rfl trivial ?_
        cases h
        exact sm_W.ret (sm_C_mono D) rfl hQ
      cases h
theorem T_Law_spare {X : Nat × (Nat → Int32)} {t d D : Nat} {Q : sm_Q} {I : sm_MI} {J : sm_MJ} {x1 : Int32} {rz : Int32} {Jz : sm_MJ}
    (hD : 5 ≤ D) (ht : t = 21 ∨ t = 41) (h : F_Law_spare t x1 I J = some (rz, Jz)) (hQ : Q (.inl (some (.int rz))) (I, Jz, sm_rf t d)) : sm_C sm_sh X sm_P D 281 [.ref 0, .int x1, .ref 96] (I, J, sm_rf t d) Q := by
  cases D with
  | zero => omega
  | succ D => exact sm_C.of (me := me_281) (L := [some (.ref 0), some (.int x1), some (.ref 96), none]) rfl rfl rfl (sm_W.forget (L' := [some (.ref 0), some (.int x1), some (.ref 96), none]) ⟨rfl, ⟨rfl, ⟨rfl, trivial⟩⟩⟩ (G_Law_spare (by omega) ht h hQ))
-- 282 Law_ransom
noncomputable def F_Law_ransom (t : Nat) (x1 : Int32) (I : sm_MI) (J : sm_MJ) : Option (Int32 × sm_MJ) :=
  sd_t1 (F_VM_ransom t x1 I) (fun r1 =>
    sd_gu (sm_in (0 : Int32) 1 = true) <|
    sd_lt (sd_upJ J 96 0 (Int32.toInt64 r1)) fun J3 =>
    some ((0 : Int32), J3))
    (fun r1 => if r1 = 1 then
    some ((1 : Int32), J)
  else none)
theorem G_Law_ransom {X : Nat × (Nat → Int32)} {t d D : Nat} {Q : sm_Q} {I : sm_MI} {J : sm_MJ} {x1 : Int32} {rz : Int32} {Jz : sm_MJ}
    (hD : 4 ≤ D) (ht : t = 21 ∨ t = 41) (h : F_Law_ransom t x1 I J = some (rz, Jz)) (hQ : Q (.inl (some (.int rz))) (I, Jz, sm_rf t d))  : sm_W sm_sh X (sm_C sm_sh X sm_P D) me_282 Q (0, [some (.ref 0), some (.int x1), some (.ref 96), none], [], 0, 0) (I, J, sm_rf t d) := by
  unfold F_Law_ransom at h
  rcases ht with rfl | rfl
  · skip
    refine sm_W.run (sm_C_mono D) 4 (G := True) (fr' := (4, [some (.ref 0), some (.int x1), some (.ref 96), none], [.int x1, .ref 0, .int (0 : Int32), .ref 96], 0, 0)) (M' := (I, J, sm_rf 21 d)) rfl trivial ?_
    rcases sd_t1_go h with ⟨r1, hc, h⟩ | ⟨r1, hc, h⟩
    · refine sm_W.cal (sm_C_mono D) (y := 125) (as := [.ref 0, .int x1]) (fr' := (5, [some (.ref 0), some (.int x1), some (.ref 96), none], [.int (0 : Int32), .ref 96], 1, 6)) rfl (T_VM_ransom (by omega) (by decide) hc (fun _ e => ?_) (fun _ e => by cases e))
      cases e
      show sm_W sm_sh X (sm_C sm_sh X sm_P D) me_282 Q (5, [some (.ref 0), some (.int x1), some (.ref 96), none], [.int r1, .int (0 : Int32), .ref 96], 1, 6) (I, J, sm_rf 21 d)
      obtain ⟨g2, h⟩ := sd_gu_go h
      refine sm_W.runL (sm_C_mono D) 2 (G := sm_in (0 : Int32) 1 = true ∧ True) (e := (sd_upJ J 96 0 (Int32.toInt64 r1))) (fr' := fun _ => (7, [some (.ref 0), some (.int x1), some (.ref 96), none], [], 1, 6)) (M' := fun J3 => (I, J3, sm_rf 21 d)) rfl h ⟨g2, trivial⟩ (fun J3 h => ?_)
      refine sm_W.run (sm_C_mono D) 2 (G := True) (fr' := (12, [some (.ref 0), some (.int x1), some (.ref 96), none], [.int (0 : Int32)], 1, 6)) (M' := (I, J3, sm_rf 21 d)) rfl trivial ?_
      cases h
      exact sm_W.ret (sm_C_mono D) rfl hQ
    · refine sm_W.cal (sm_C_mono D) (y := 125) (as := [.ref 0, .int x1]) (fr' := (5, [some (.ref 0), some (.int x1), some (.ref 96), none], [.int (0 : Int32), .ref 96], 1, 6)) rfl (T_VM_ransom (by omega) (by decide) hc (fun _ e => by cases e) (fun _ e => ?_))
      cases e
      rcases sd_if_go h with ⟨he, h⟩ | ⟨he, h⟩
      · subst he
        show sm_W sm_sh X (sm_C sm_sh X sm_P D) me_282 Q (9, [some (.ref 0), some (.int x1), some (.ref 96), none], [], 1, 6) (I, J, sm_rf 21 d)
        refine sm_W.run (sm_C_mono D) 1 (G := True) (fr' := (10, [some (.ref 0), some (.int x1), some (.ref 96), none], [.int (1 : Int32)], 1, 6)) (M' := (I, J, sm_rf 21 d)) rfl trivial ?_
        cases h
        exact sm_W.ret (sm_C_mono D) rfl hQ
      cases h
  · skip
    refine sm_W.run (sm_C_mono D) 4 (G := True) (fr' := (4, [some (.ref 0), some (.int x1), some (.ref 96), none], [.int x1, .ref 0, .int (0 : Int32), .ref 96], 0, 0)) (M' := (I, J, sm_rf 41 d)) rfl trivial ?_
    rcases sd_t1_go h with ⟨r1, hc, h⟩ | ⟨r1, hc, h⟩
    · refine sm_W.cal (sm_C_mono D) (y := 125) (as := [.ref 0, .int x1]) (fr' := (5, [some (.ref 0), some (.int x1), some (.ref 96), none], [.int (0 : Int32), .ref 96], 1, 6)) rfl (T_VM_ransom (by omega) (by decide) hc (fun _ e => ?_) (fun _ e => by cases e))
      cases e
      show sm_W sm_sh X (sm_C sm_sh X sm_P D) me_282 Q (5, [some (.ref 0), some (.int x1), some (.ref 96), none], [.int r1, .int (0 : Int32), .ref 96], 1, 6) (I, J, sm_rf 41 d)
      obtain ⟨g2, h⟩ := sd_gu_go h
      refine sm_W.runL (sm_C_mono D) 2 (G := sm_in (0 : Int32) 1 = true ∧ True) (e := (sd_upJ J 96 0 (Int32.toInt64 r1))) (fr' := fun _ => (7, [some (.ref 0), some (.int x1), some (.ref 96), none], [], 1, 6)) (M' := fun J3 => (I, J3, sm_rf 41 d)) rfl h ⟨g2, trivial⟩ (fun J3 h => ?_)
      refine sm_W.run (sm_C_mono D) 2 (G := True) (fr' := (12, [some (.ref 0), some (.int x1), some (.ref 96), none], [.int (0 : Int32)], 1, 6)) (M' := (I, J3, sm_rf 41 d)) rfl trivial ?_
      cases h
      exact sm_W.ret (sm_C_mono D) rfl hQ
    · refine sm_W.cal (sm_C_mono D) (y := 125) (as := [.ref 0, .int x1]) (fr' := (5, [some (.ref 0), some (.int x1), some (.ref 96), none], [.int (0 : Int32), .ref 96], 1, 6)) rfl (T_VM_ransom (by omega) (by decide) hc (fun _ e => by cases e) (fun _ e => ?_))
      cases e
      rcases sd_if_go h with ⟨he, h⟩ | ⟨he, h⟩
      · subst he
        show sm_W sm_sh X (sm_C sm_sh X sm_P D) me_282 Q (9, [some (.ref 0), some (.int x1), some (.ref 96), none], [], 1, 6) (I, J, sm_rf 41 d)
        refine sm_W.run (sm_C_mono D) 1 (G := True) (fr' := (10, [some (.ref 0), some (.int x1), some (.ref 96), none], [.int (1 : Int32)], 1, 6)) (M' := (I, J, sm_rf 41 d)) rfl trivial ?_
        cases h
        exact sm_W.ret (sm_C_mono D) rfl hQ
      cases h
theorem T_Law_ransom {X : Nat × (Nat → Int32)} {t d D : Nat} {Q : sm_Q} {I : sm_MI} {J : sm_MJ} {x1 : Int32} {rz : Int32} {Jz : sm_MJ}
    (hD : 5 ≤ D) (ht : t = 21 ∨ t = 41) (h : F_Law_ransom t x1 I J = some (rz, Jz)) (hQ : Q (.inl (some (.int rz))) (I, Jz, sm_rf t d)) : sm_C sm_sh X sm_P D 282 [.ref 0, .int x1, .ref 96] (I, J, sm_rf t d) Q := by
  cases D with
  | zero => omega
  | succ D => exact sm_C.of (me := me_282) (L := [some (.ref 0), some (.int x1), some (.ref 96), none]) rfl rfl rfl (sm_W.forget (L' := [some (.ref 0), some (.int x1), some (.ref 96), none]) ⟨rfl, ⟨rfl, ⟨rfl, trivial⟩⟩⟩ (G_Law_ransom (by omega) ht h hQ))
-- 283 Law_luck
noncomputable def F_Law_luck (t : Nat) (x1 : Int32) (x2 : Int32) (x3 : Int32) (I : sm_MI) (J : sm_MJ) : Option (Int32 × sm_MI × sm_MJ) :=
  sd_t2 (F_VM_luck t x1 x2 x3 I) (fun r1 I2 =>
    sd_gu (sm_in (0 : Int32) 1 = true) <|
    sd_lt (sd_upJ J 96 0 (Int32.toInt64 r1)) fun J4 =>
    some ((0 : Int32), I2, J4))
    (fun r1 I2 => if r1 = 1 then
    some ((1 : Int32), I2, J)
  else if r1 = 0 then
    some ((2 : Int32), I2, J)
  else none)
theorem G_Law_luck {X : Nat × (Nat → Int32)} {t d D : Nat} {Q : sm_Q} {I : sm_MI} {J : sm_MJ} {x1 : Int32} {x2 : Int32} {x3 : Int32} {rz : Int32} {Iz : sm_MI} {Jz : sm_MJ}
    (hD : 4 ≤ D) (ht : t = 21 ∨ t = 41) (h : F_Law_luck t x1 x2 x3 I J = some (rz, Iz, Jz)) (hQ : Q (.inl (some (.int rz))) (Iz, Jz, sm_rf t d))  : sm_W sm_sh X (sm_C sm_sh X sm_P D) me_283 Q (0, [some (.ref 0), some (.int x1), some (.int x2), some (.int x3), some (.ref 96), none], [], 0, 0) (I, J, sm_rf t d) := by
  unfold F_Law_luck at h
  rcases ht with rfl | rfl
  · skip
    refine sm_W.run (sm_C_mono D) 6 (G := True) (fr' := (6, [some (.ref 0), some (.int x1), some (.int x2), some (.int x3), some (.ref 96), none], [.int x3, .int x2, .int x1, .ref 0, .int (0 : Int32), .ref 96], 0, 0)) (M' := (I, J, sm_rf 21 d)) rfl trivial ?_
    rcases sd_t2_go h with ⟨r1, I2, hc, h⟩ | ⟨r1, I2, hc, h⟩
    · refine sm_W.cal (sm_C_mono D) (y := 134) (as := [.ref 0, .int x1, .int x2, .int x3]) (fr' := (7, [some (.ref 0), some (.int x1), some (.int x2), some (.int x3), some (.ref 96), none], [.int (0 : Int32), .ref 96], 2, 12)) rfl (T_VM_luck (by omega) (by decide) hc (fun _ e => ?_) (fun _ e => by cases e))
      cases e
      show sm_W sm_sh X (sm_C sm_sh X sm_P D) me_283 Q (7, [some (.ref 0), some (.int x1), some (.int x2), some (.int x3), some (.ref 96), none], [.int r1, .int (0 : Int32), .ref 96], 2, 12) (I2, J, sm_rf 21 d)
      obtain ⟨g3, h⟩ := sd_gu_go h
      refine sm_W.runL (sm_C_mono D) 2 (G := sm_in (0 : Int32) 1 = true ∧ True) (e := (sd_upJ J 96 0 (Int32.toInt64 r1))) (fr' := fun _ => (9, [some (.ref 0), some (.int x1), some (.int x2), some (.int x3), some (.ref 96), none], [], 2, 12)) (M' := fun J4 => (I2, J4, sm_rf 21 d)) rfl h ⟨g3, trivial⟩ (fun J4 h => ?_)
      refine sm_W.run (sm_C_mono D) 2 (G := True) (fr' := (17, [some (.ref 0), some (.int x1), some (.int x2), some (.int x3), some (.ref 96), none], [.int (0 : Int32)], 2, 12)) (M' := (I2, J4, sm_rf 21 d)) rfl trivial ?_
      cases h
      exact sm_W.ret (sm_C_mono D) rfl hQ
    · refine sm_W.cal (sm_C_mono D) (y := 134) (as := [.ref 0, .int x1, .int x2, .int x3]) (fr' := (7, [some (.ref 0), some (.int x1), some (.int x2), some (.int x3), some (.ref 96), none], [.int (0 : Int32), .ref 96], 2, 12)) rfl (T_VM_luck (by omega) (by decide) hc (fun _ e => by cases e) (fun _ e => ?_))
      cases e
      rcases sd_if_go h with ⟨he, h⟩ | ⟨he, h⟩
      · subst he
        show sm_W sm_sh X (sm_C sm_sh X sm_P D) me_283 Q (11, [some (.ref 0), some (.int x1), some (.int x2), some (.int x3), some (.ref 96), none], [], 2, 12) (I2, J, sm_rf 21 d)
        refine sm_W.run (sm_C_mono D) 1 (G := True) (fr' := (12, [some (.ref 0), some (.int x1), some (.int x2), some (.int x3), some (.ref 96), none], [.int (1 : Int32)], 2, 12)) (M' := (I2, J, sm_rf 21 d)) rfl trivial ?_
        cases h
        exact sm_W.ret (sm_C_mono D) rfl hQ
      rcases sd_if_go h with ⟨he, h⟩ | ⟨he, h⟩
      · subst he
        show sm_W sm_sh X (sm_C sm_sh X sm_P D) me_283 Q (14, [some (.ref 0), some (.int x1), some (.int x2), some (.int x3), some (.ref 96), none], [], 2, 12) (I2, J, sm_rf 21 d)
        refine sm_W.run (sm_C_mono D) 1 (G := True) (fr' := (15, [some (.ref 0), some (.int x1), some (.int x2), some (.int x3), some (.ref 96), none], [.int (2 : Int32)], 2, 12)) (M' := (I2, J, sm_rf 21 d)) rfl trivial ?_
        cases h
        exact sm_W.ret (sm_C_mono D) rfl hQ
      cases h
  · skip
    refine sm_W.run (sm_C_mono D) 6 (G := True) (fr' := (6, [some (.ref 0), some (.int x1), some (.int x2), some (.int x3), some (.ref 96), none], [.int x3, .int x2, .int x1, .ref 0, .int (0 : Int32), .ref 96], 0, 0)) (M' := (I, J, sm_rf 41 d)) rfl trivial ?_
    rcases sd_t2_go h with ⟨r1, I2, hc, h⟩ | ⟨r1, I2, hc, h⟩
    · refine sm_W.cal (sm_C_mono D) (y := 134) (as := [.ref 0, .int x1, .int x2, .int x3]) (fr' := (7, [some (.ref 0), some (.int x1), some (.int x2), some (.int x3), some (.ref 96), none], [.int (0 : Int32), .ref 96], 2, 12)) rfl (T_VM_luck (by omega) (by decide) hc (fun _ e => ?_) (fun _ e => by cases e))
      cases e
      show sm_W sm_sh X (sm_C sm_sh X sm_P D) me_283 Q (7, [some (.ref 0), some (.int x1), some (.int x2), some (.int x3), some (.ref 96), none], [.int r1, .int (0 : Int32), .ref 96], 2, 12) (I2, J, sm_rf 41 d)
      obtain ⟨g3, h⟩ := sd_gu_go h
      refine sm_W.runL (sm_C_mono D) 2 (G := sm_in (0 : Int32) 1 = true ∧ True) (e := (sd_upJ J 96 0 (Int32.toInt64 r1))) (fr' := fun _ => (9, [some (.ref 0), some (.int x1), some (.int x2), some (.int x3), some (.ref 96), none], [], 2, 12)) (M' := fun J4 => (I2, J4, sm_rf 41 d)) rfl h ⟨g3, trivial⟩ (fun J4 h => ?_)
      refine sm_W.run (sm_C_mono D) 2 (G := True) (fr' := (17, [some (.ref 0), some (.int x1), some (.int x2), some (.int x3), some (.ref 96), none], [.int (0 : Int32)], 2, 12)) (M' := (I2, J4, sm_rf 41 d)) rfl trivial ?_
      cases h
      exact sm_W.ret (sm_C_mono D) rfl hQ
    · refine sm_W.cal (sm_C_mono D) (y := 134) (as := [.ref 0, .int x1, .int x2, .int x3]) (fr' := (7, [some (.ref 0), some (.int x1), some (.int x2), some (.int x3), some (.ref 96), none], [.int (0 : Int32), .ref 96], 2, 12)) rfl (T_VM_luck (by omega) (by decide) hc (fun _ e => by cases e) (fun _ e => ?_))
      cases e
      rcases sd_if_go h with ⟨he, h⟩ | ⟨he, h⟩
      · subst he
        show sm_W sm_sh X (sm_C sm_sh X sm_P D) me_283 Q (11, [some (.ref 0), some (.int x1), some (.int x2), some (.int x3), some (.ref 96), none], [], 2, 12) (I2, J, sm_rf 41 d)
        refine sm_W.run (sm_C_mono D) 1 (G := True) (fr' := (12, [some (.ref 0), some (.int x1), some (.int x2), some (.int x3), some (.ref 96), none], [.int (1 : Int32)], 2, 12)) (M' := (I2, J, sm_rf 41 d)) rfl trivial ?_
        cases h
        exact sm_W.ret (sm_C_mono D) rfl hQ
      rcases sd_if_go h with ⟨he, h⟩ | ⟨he, h⟩
      · subst he
        show sm_W sm_sh X (sm_C sm_sh X sm_P D) me_283 Q (14, [some (.ref 0), some (.int x1), some (.int x2), some (.int x3), some (.ref 96), none], [], 2, 12) (I2, J, sm_rf 41 d)
        refine sm_W.run (sm_C_mono D) 1 (G := True) (fr' := (15, [some (.ref 0), some (.int x1), some (.int x2), some (.int x3), some (.ref 96), none], [.int (2 : Int32)], 2, 12)) (M' := (I2, J, sm_rf 41 d)) rfl trivial ?_
        cases h
        exact sm_W.ret (sm_C_mono D) rfl hQ
      cases h
theorem T_Law_luck {X : Nat × (Nat → Int32)} {t d D : Nat} {Q : sm_Q} {I : sm_MI} {J : sm_MJ} {x1 : Int32} {x2 : Int32} {x3 : Int32} {rz : Int32} {Iz : sm_MI} {Jz : sm_MJ}
    (hD : 5 ≤ D) (ht : t = 21 ∨ t = 41) (h : F_Law_luck t x1 x2 x3 I J = some (rz, Iz, Jz)) (hQ : Q (.inl (some (.int rz))) (Iz, Jz, sm_rf t d)) : sm_C sm_sh X sm_P D 283 [.ref 0, .int x1, .int x2, .int x3, .ref 96] (I, J, sm_rf t d) Q := by
  cases D with
  | zero => omega
  | succ D => exact sm_C.of (me := me_283) (L := [some (.ref 0), some (.int x1), some (.int x2), some (.int x3), some (.ref 96), none]) rfl rfl rfl (sm_W.forget (L' := [some (.ref 0), some (.int x1), some (.int x2), some (.int x3), some (.ref 96), none]) ⟨rfl, ⟨rfl, ⟨rfl, ⟨rfl, ⟨rfl, trivial⟩⟩⟩⟩⟩ (G_Law_luck (by omega) ht h hQ))
-- 284 Law_codes
noncomputable def F_Law_codes (t : Nat) (x1 : Int32) (x2 : Int32) (I : sm_MI) (J : sm_MJ) : Option (Int32 × sm_MJ) :=
  sd_t1 (F_VM_codes t x1 x2 I) (fun r1 =>
    sd_gu (sm_in (0 : Int32) 1 = true) <|
    sd_lt (sd_upJ J 96 0 r1) fun J3 =>
    some ((0 : Int32), J3))
    (fun r1 => if r1 = 1 then
    some ((1 : Int32), J)
  else if r1 = 0 then
    some ((2 : Int32), J)
  else none)
theorem G_Law_codes {X : Nat × (Nat → Int32)} {t d D : Nat} {Q : sm_Q} {I : sm_MI} {J : sm_MJ} {x1 : Int32} {x2 : Int32} {rz : Int32} {Jz : sm_MJ}
    (hD : 3 ≤ D) (ht : t = 21 ∨ t = 41) (h : F_Law_codes t x1 x2 I J = some (rz, Jz)) (hQ : Q (.inl (some (.int rz))) (I, Jz, sm_rf t d))  : sm_W sm_sh X (sm_C sm_sh X sm_P D) me_284 Q (0, [some (.ref 0), some (.int x1), some (.int x2), some (.ref 96), none], [], 0, 0) (I, J, sm_rf t d) := by
  unfold F_Law_codes at h
  rcases ht with rfl | rfl
  · skip
    refine sm_W.run (sm_C_mono D) 5 (G := True) (fr' := (5, [some (.ref 0), some (.int x1), some (.int x2), some (.ref 96), none], [.int x2, .int x1, .ref 0, .int (0 : Int32), .ref 96], 0, 0)) (M' := (I, J, sm_rf 21 d)) rfl trivial ?_
    rcases sd_t1_go h with ⟨r1, hc, h⟩ | ⟨r1, hc, h⟩
    · refine sm_W.cal (sm_C_mono D) (y := 135) (as := [.ref 0, .int x1, .int x2]) (fr' := (6, [some (.ref 0), some (.int x1), some (.int x2), some (.ref 96), none], [.int (0 : Int32), .ref 96], 2, 12)) rfl (T_VM_codes (by omega) (by decide) hc (fun _ e => ?_) (fun _ e => by cases e))
      cases e
      show sm_W sm_sh X (sm_C sm_sh X sm_P D) me_284 Q (6, [some (.ref 0), some (.int x1), some (.int x2), some (.ref 96), none], [.long r1, .int (0 : Int32), .ref 96], 2, 12) (I, J, sm_rf 21 d)
      obtain ⟨g2, h⟩ := sd_gu_go h
      refine sm_W.runL (sm_C_mono D) 1 (G := sm_in (0 : Int32) 1 = true ∧ True) (e := (sd_upJ J 96 0 r1)) (fr' := fun _ => (7, [some (.ref 0), some (.int x1), some (.int x2), some (.ref 96), none], [], 2, 12)) (M' := fun J3 => (I, J3, sm_rf 21 d)) rfl h ⟨g2, trivial⟩ (fun J3 h => ?_)
      refine sm_W.run (sm_C_mono D) 2 (G := True) (fr' := (15, [some (.ref 0), some (.int x1), some (.int x2), some (.ref 96), none], [.int (0 : Int32)], 2, 12)) (M' := (I, J3, sm_rf 21 d)) rfl trivial ?_
      cases h
      exact sm_W.ret (sm_C_mono D) rfl hQ
    · refine sm_W.cal (sm_C_mono D) (y := 135) (as := [.ref 0, .int x1, .int x2]) (fr' := (6, [some (.ref 0), some (.int x1), some (.int x2), some (.ref 96), none], [.int (0 : Int32), .ref 96], 2, 12)) rfl (T_VM_codes (by omega) (by decide) hc (fun _ e => by cases e) (fun _ e => ?_))
      cases e
      rcases sd_if_go h with ⟨he, h⟩ | ⟨he, h⟩
      · subst he
        show sm_W sm_sh X (sm_C sm_sh X sm_P D) me_284 Q (9, [some (.ref 0), some (.int x1), some (.int x2), some (.ref 96), none], [], 2, 12) (I, J, sm_rf 21 d)
        refine sm_W.run (sm_C_mono D) 1 (G := True) (fr' := (10, [some (.ref 0), some (.int x1), some (.int x2), some (.ref 96), none], [.int (1 : Int32)], 2, 12)) (M' := (I, J, sm_rf 21 d)) rfl trivial ?_
        cases h
        exact sm_W.ret (sm_C_mono D) rfl hQ
      rcases sd_if_go h with ⟨he, h⟩ | ⟨he, h⟩
      · subst he
        show sm_W sm_sh X (sm_C sm_sh X sm_P D) me_284 Q (12, [some (.ref 0), some (.int x1), some (.int x2), some (.ref 96), none], [], 2, 12) (I, J, sm_rf 21 d)
        refine sm_W.run (sm_C_mono D) 1 (G := True) (fr' := (13, [some (.ref 0), some (.int x1), some (.int x2), some (.ref 96), none], [.int (2 : Int32)], 2, 12)) (M' := (I, J, sm_rf 21 d)) rfl trivial ?_
        cases h
        exact sm_W.ret (sm_C_mono D) rfl hQ
      cases h
  · skip
    refine sm_W.run (sm_C_mono D) 5 (G := True) (fr' := (5, [some (.ref 0), some (.int x1), some (.int x2), some (.ref 96), none], [.int x2, .int x1, .ref 0, .int (0 : Int32), .ref 96], 0, 0)) (M' := (I, J, sm_rf 41 d)) rfl trivial ?_
    rcases sd_t1_go h with ⟨r1, hc, h⟩ | ⟨r1, hc, h⟩
    · refine sm_W.cal (sm_C_mono D) (y := 135) (as := [.ref 0, .int x1, .int x2]) (fr' := (6, [some (.ref 0), some (.int x1), some (.int x2), some (.ref 96), none], [.int (0 : Int32), .ref 96], 2, 12)) rfl (T_VM_codes (by omega) (by decide) hc (fun _ e => ?_) (fun _ e => by cases e))
      cases e
      show sm_W sm_sh X (sm_C sm_sh X sm_P D) me_284 Q (6, [some (.ref 0), some (.int x1), some (.int x2), some (.ref 96), none], [.long r1, .int (0 : Int32), .ref 96], 2, 12) (I, J, sm_rf 41 d)
      obtain ⟨g2, h⟩ := sd_gu_go h
      refine sm_W.runL (sm_C_mono D) 1 (G := sm_in (0 : Int32) 1 = true ∧ True) (e := (sd_upJ J 96 0 r1)) (fr' := fun _ => (7, [some (.ref 0), some (.int x1), some (.int x2), some (.ref 96), none], [], 2, 12)) (M' := fun J3 => (I, J3, sm_rf 41 d)) rfl h ⟨g2, trivial⟩ (fun J3 h => ?_)
      refine sm_W.run (sm_C_mono D) 2 (G := True) (fr' := (15, [some (.ref 0), some (.int x1), some (.int x2), some (.ref 96), none], [.int (0 : Int32)], 2, 12)) (M' := (I, J3, sm_rf 41 d)) rfl trivial ?_
      cases h
      exact sm_W.ret (sm_C_mono D) rfl hQ
    · refine sm_W.cal (sm_C_mono D) (y := 135) (as := [.ref 0, .int x1, .int x2]) (fr' := (6, [some (.ref 0), some (.int x1), some (.int x2), some (.ref 96), none], [.int (0 : Int32), .ref 96], 2, 12)) rfl (T_VM_codes (by omega) (by decide) hc (fun _ e => by cases e) (fun _ e => ?_))
      cases e
      rcases sd_if_go h with ⟨he, h⟩ | ⟨he, h⟩
      · subst he
        show sm_W sm_sh X (sm_C sm_sh X sm_P D) me_284 Q (9, [some (.ref 0), some (.int x1), some (.int x2), some (.ref 96), none], [], 2, 12) (I, J, sm_rf 41 d)
        refine sm_W.run (sm_C_mono D) 1 (G := True) (fr' := (10, [some (.ref 0), some (.int x1), some (.int x2), some (.ref 96), none], [.int (1 : Int32)], 2, 12)) (M' := (I, J, sm_rf 41 d)) rfl trivial ?_
        cases h
        exact sm_W.ret (sm_C_mono D) rfl hQ
      rcases sd_if_go h with ⟨he, h⟩ | ⟨he, h⟩
      · subst he
        show sm_W sm_sh X (sm_C sm_sh X sm_P D) me_284 Q (12, [some (.ref 0), some (.int x1), some (.int x2), some (.ref 96), none], [], 2, 12) (I, J, sm_rf 41 d)
        refine sm_W.run (sm_C_mono D) 1 (G := True) (fr' := (13, [some (.ref 0), some (.int x1), some (.int x2), some (.ref 96), none], [.int (2 : Int32)], 2, 12)) (M' := (I, J, sm_rf 41 d)) rfl trivial ?_
        cases h
        exact sm_W.ret (sm_C_mono D) rfl hQ
      cases h
theorem T_Law_codes {X : Nat × (Nat → Int32)} {t d D : Nat} {Q : sm_Q} {I : sm_MI} {J : sm_MJ} {x1 : Int32} {x2 : Int32} {rz : Int32} {Jz : sm_MJ}
    (hD : 4 ≤ D) (ht : t = 21 ∨ t = 41) (h : F_Law_codes t x1 x2 I J = some (rz, Jz)) (hQ : Q (.inl (some (.int rz))) (I, Jz, sm_rf t d)) : sm_C sm_sh X sm_P D 284 [.ref 0, .int x1, .int x2, .ref 96] (I, J, sm_rf t d) Q := by
  cases D with
  | zero => omega
  | succ D => exact sm_C.of (me := me_284) (L := [some (.ref 0), some (.int x1), some (.int x2), some (.ref 96), none]) rfl rfl rfl (sm_W.forget (L' := [some (.ref 0), some (.int x1), some (.int x2), some (.ref 96), none]) ⟨rfl, ⟨rfl, ⟨rfl, ⟨rfl, trivial⟩⟩⟩⟩ (G_Law_codes (by omega) ht h hQ))
-- 285 Law_slips
noncomputable def F_Law_slips (t : Nat) (x1 : Int32) (x2 : Int32) (I : sm_MI) (J : sm_MJ) : Option (Int32 × sm_MJ) :=
  sd_t1 (F_VM_slips t x1 x2 I) (fun r1 =>
    sd_gu (sm_in (0 : Int32) 1 = true) <|
    sd_lt (sd_upJ J 96 0 (Int32.toInt64 r1)) fun J3 =>
    some ((0 : Int32), J3))
    (fun r1 => if r1 = 1 then
    some ((1 : Int32), J)
  else if r1 = 0 then
    some ((2 : Int32), J)
  else none)
theorem G_Law_slips {X : Nat × (Nat → Int32)} {t d D : Nat} {Q : sm_Q} {I : sm_MI} {J : sm_MJ} {x1 : Int32} {x2 : Int32} {rz : Int32} {Jz : sm_MJ}
    (hD : 3 ≤ D) (ht : t = 21 ∨ t = 41) (h : F_Law_slips t x1 x2 I J = some (rz, Jz)) (hQ : Q (.inl (some (.int rz))) (I, Jz, sm_rf t d))  : sm_W sm_sh X (sm_C sm_sh X sm_P D) me_285 Q (0, [some (.ref 0), some (.int x1), some (.int x2), some (.ref 96), none], [], 0, 0) (I, J, sm_rf t d) := by
  unfold F_Law_slips at h
  rcases ht with rfl | rfl
  · skip
    refine sm_W.run (sm_C_mono D) 5 (G := True) (fr' := (5, [some (.ref 0), some (.int x1), some (.int x2), some (.ref 96), none], [.int x2, .int x1, .ref 0, .int (0 : Int32), .ref 96], 0, 0)) (M' := (I, J, sm_rf 21 d)) rfl trivial ?_
    rcases sd_t1_go h with ⟨r1, hc, h⟩ | ⟨r1, hc, h⟩
    · refine sm_W.cal (sm_C_mono D) (y := 136) (as := [.ref 0, .int x1, .int x2]) (fr' := (6, [some (.ref 0), some (.int x1), some (.int x2), some (.ref 96), none], [.int (0 : Int32), .ref 96], 2, 12)) rfl (T_VM_slips (by omega) (by decide) hc (fun _ e => ?_) (fun _ e => by cases e))
      cases e
      show sm_W sm_sh X (sm_C sm_sh X sm_P D) me_285 Q (6, [some (.ref 0), some (.int x1), some (.int x2), some (.ref 96), none], [.int r1, .int (0 : Int32), .ref 96], 2, 12) (I, J, sm_rf 21 d)
      obtain ⟨g2, h⟩ := sd_gu_go h
      refine sm_W.runL (sm_C_mono D) 2 (G := sm_in (0 : Int32) 1 = true ∧ True) (e := (sd_upJ J 96 0 (Int32.toInt64 r1))) (fr' := fun _ => (8, [some (.ref 0), some (.int x1), some (.int x2), some (.ref 96), none], [], 2, 12)) (M' := fun J3 => (I, J3, sm_rf 21 d)) rfl h ⟨g2, trivial⟩ (fun J3 h => ?_)
      refine sm_W.run (sm_C_mono D) 2 (G := True) (fr' := (16, [some (.ref 0), some (.int x1), some (.int x2), some (.ref 96), none], [.int (0 : Int32)], 2, 12)) (M' := (I, J3, sm_rf 21 d)) rfl trivial ?_
      cases h
      exact sm_W.ret (sm_C_mono D) rfl hQ
    · refine sm_W.cal (sm_C_mono D) (y := 136) (as := [.ref 0, .int x1, .int x2]) (fr' := (6, [some (.ref 0), some (.int x1), some (.int x2), some (.ref 96), none], [.int (0 : Int32), .ref 96], 2, 12)) rfl (T_VM_slips (by omega) (by decide) hc (fun _ e => by cases e) (fun _ e => ?_))
      cases e
      rcases sd_if_go h with ⟨he, h⟩ | ⟨he, h⟩
      · subst he
        show sm_W sm_sh X (sm_C sm_sh X sm_P D) me_285 Q (10, [some (.ref 0), some (.int x1), some (.int x2), some (.ref 96), none], [], 2, 12) (I, J, sm_rf 21 d)
        refine sm_W.run (sm_C_mono D) 1 (G := True) (fr' := (11, [some (.ref 0), some (.int x1), some (.int x2), some (.ref 96), none], [.int (1 : Int32)], 2, 12)) (M' := (I, J, sm_rf 21 d)) rfl trivial ?_
        cases h
        exact sm_W.ret (sm_C_mono D) rfl hQ
      rcases sd_if_go h with ⟨he, h⟩ | ⟨he, h⟩
      · subst he
        show sm_W sm_sh X (sm_C sm_sh X sm_P D) me_285 Q (13, [some (.ref 0), some (.int x1), some (.int x2), some (.ref 96), none], [], 2, 12) (I, J, sm_rf 21 d)
        refine sm_W.run (sm_C_mono D) 1 (G := True) (fr' := (14, [some (.ref 0), some (.int x1), some (.int x2), some (.ref 96), none], [.int (2 : Int32)], 2, 12)) (M' := (I, J, sm_rf 21 d)) rfl trivial ?_
        cases h
        exact sm_W.ret (sm_C_mono D) rfl hQ
      cases h
  · skip
    refine sm_W.run (sm_C_mono D) 5 (G := True) (fr' := (5, [some (.ref 0), some (.int x1), some (.int x2), some (.ref 96), none], [.int x2, .int x1, .ref 0, .int (0 : Int32), .ref 96], 0, 0)) (M' := (I, J, sm_rf 41 d)) rfl trivial ?_
    rcases sd_t1_go h with ⟨r1, hc, h⟩ | ⟨r1, hc, h⟩
    · refine sm_W.cal (sm_C_mono D) (y := 136) (as := [.ref 0, .int x1, .int x2]) (fr' := (6, [some (.ref 0), some (.int x1), some (.int x2), some (.ref 96), none], [.int (0 : Int32), .ref 96], 2, 12)) rfl (T_VM_slips (by omega) (by decide) hc (fun _ e => ?_) (fun _ e => by cases e))
      cases e
      show sm_W sm_sh X (sm_C sm_sh X sm_P D) me_285 Q (6, [some (.ref 0), some (.int x1), some (.int x2), some (.ref 96), none], [.int r1, .int (0 : Int32), .ref 96], 2, 12) (I, J, sm_rf 41 d)
      obtain ⟨g2, h⟩ := sd_gu_go h
      refine sm_W.runL (sm_C_mono D) 2 (G := sm_in (0 : Int32) 1 = true ∧ True) (e := (sd_upJ J 96 0 (Int32.toInt64 r1))) (fr' := fun _ => (8, [some (.ref 0), some (.int x1), some (.int x2), some (.ref 96), none], [], 2, 12)) (M' := fun J3 => (I, J3, sm_rf 41 d)) rfl h ⟨g2, trivial⟩ (fun J3 h => ?_)
      refine sm_W.run (sm_C_mono D) 2 (G := True) (fr' := (16, [some (.ref 0), some (.int x1), some (.int x2), some (.ref 96), none], [.int (0 : Int32)], 2, 12)) (M' := (I, J3, sm_rf 41 d)) rfl trivial ?_
      cases h
      exact sm_W.ret (sm_C_mono D) rfl hQ
    · refine sm_W.cal (sm_C_mono D) (y := 136) (as := [.ref 0, .int x1, .int x2]) (fr' := (6, [some (.ref 0), some (.int x1), some (.int x2), some (.ref 96), none], [.int (0 : Int32), .ref 96], 2, 12)) rfl (T_VM_slips (by omega) (by decide) hc (fun _ e => by cases e) (fun _ e => ?_))
      cases e
      rcases sd_if_go h with ⟨he, h⟩ | ⟨he, h⟩
      · subst he
        show sm_W sm_sh X (sm_C sm_sh X sm_P D) me_285 Q (10, [some (.ref 0), some (.int x1), some (.int x2), some (.ref 96), none], [], 2, 12) (I, J, sm_rf 41 d)
        refine sm_W.run (sm_C_mono D) 1 (G := True) (fr' := (11, [some (.ref 0), some (.int x1), some (.int x2), some (.ref 96), none], [.int (1 : Int32)], 2, 12)) (M' := (I, J, sm_rf 41 d)) rfl trivial ?_
        cases h
        exact sm_W.ret (sm_C_mono D) rfl hQ
      rcases sd_if_go h with ⟨he, h⟩ | ⟨he, h⟩
      · subst he
        show sm_W sm_sh X (sm_C sm_sh X sm_P D) me_285 Q (13, [some (.ref 0), some (.int x1), some (.int x2), some (.ref 96), none], [], 2, 12) (I, J, sm_rf 41 d)
        refine sm_W.run (sm_C_mono D) 1 (G := True) (fr' := (14, [some (.ref 0), some (.int x1), some (.int x2), some (.ref 96), none], [.int (2 : Int32)], 2, 12)) (M' := (I, J, sm_rf 41 d)) rfl trivial ?_
        cases h
        exact sm_W.ret (sm_C_mono D) rfl hQ
      cases h
theorem T_Law_slips {X : Nat × (Nat → Int32)} {t d D : Nat} {Q : sm_Q} {I : sm_MI} {J : sm_MJ} {x1 : Int32} {x2 : Int32} {rz : Int32} {Jz : sm_MJ}
    (hD : 4 ≤ D) (ht : t = 21 ∨ t = 41) (h : F_Law_slips t x1 x2 I J = some (rz, Jz)) (hQ : Q (.inl (some (.int rz))) (I, Jz, sm_rf t d)) : sm_C sm_sh X sm_P D 285 [.ref 0, .int x1, .int x2, .ref 96] (I, J, sm_rf t d) Q := by
  cases D with
  | zero => omega
  | succ D => exact sm_C.of (me := me_285) (L := [some (.ref 0), some (.int x1), some (.int x2), some (.ref 96), none]) rfl rfl rfl (sm_W.forget (L' := [some (.ref 0), some (.int x1), some (.int x2), some (.ref 96), none]) ⟨rfl, ⟨rfl, ⟨rfl, ⟨rfl, trivial⟩⟩⟩⟩ (G_Law_slips (by omega) ht h hQ))
-- 286 Law_hear
noncomputable def F_Law_hear (t : Nat) (x1 : Int32) (x2 : Int32) (x3 : Int32) (x4 : Int32) (I : sm_MI) (J : sm_MJ) : Option (Int32 × sm_MI × sm_MJ) :=
  sd_t2 (F_VM_hear t x1 x2 x3 x4 I) (fun r1 I2 =>
    sd_gu (sm_in (0 : Int32) 1 = true) <|
    sd_lt (sd_upJ J 96 0 (Int32.toInt64 r1)) fun J4 =>
    some ((0 : Int32), I2, J4))
    (fun r1 I2 => if r1 = 1 then
    some ((1 : Int32), I2, J)
  else none)
theorem G_Law_hear {X : Nat × (Nat → Int32)} {t d D : Nat} {Q : sm_Q} {I : sm_MI} {J : sm_MJ} {x1 : Int32} {x2 : Int32} {x3 : Int32} {x4 : Int32} {rz : Int32} {Iz : sm_MI} {Jz : sm_MJ}
    (hD : 3 ≤ D) (ht : t = 21 ∨ t = 41) (h : F_Law_hear t x1 x2 x3 x4 I J = some (rz, Iz, Jz)) (hQ : Q (.inl (some (.int rz))) (Iz, Jz, sm_rf t d))  : sm_W sm_sh X (sm_C sm_sh X sm_P D) me_286 Q (0, [some (.ref 0), some (.int x1), some (.int x2), some (.int x3), some (.int x4), some (.ref 96), none], [], 0, 0) (I, J, sm_rf t d) := by
  unfold F_Law_hear at h
  rcases ht with rfl | rfl
  · skip
    refine sm_W.run (sm_C_mono D) 7 (G := True) (fr' := (7, [some (.ref 0), some (.int x1), some (.int x2), some (.int x3), some (.int x4), some (.ref 96), none], [.int x4, .int x3, .int x2, .int x1, .ref 0, .int (0 : Int32), .ref 96], 0, 0)) (M' := (I, J, sm_rf 21 d)) rfl trivial ?_
    rcases sd_t2_go h with ⟨r1, I2, hc, h⟩ | ⟨r1, I2, hc, h⟩
    · refine sm_W.cal (sm_C_mono D) (y := 137) (as := [.ref 0, .int x1, .int x2, .int x3, .int x4]) (fr' := (8, [some (.ref 0), some (.int x1), some (.int x2), some (.int x3), some (.int x4), some (.ref 96), none], [.int (0 : Int32), .ref 96], 2, 12)) rfl (T_VM_hear (by omega) (by decide) hc (fun _ e => ?_) (fun _ e => by cases e))
      cases e
      show sm_W sm_sh X (sm_C sm_sh X sm_P D) me_286 Q (8, [some (.ref 0), some (.int x1), some (.int x2), some (.int x3), some (.int x4), some (.ref 96), none], [.int r1, .int (0 : Int32), .ref 96], 2, 12) (I2, J, sm_rf 21 d)
      obtain ⟨g3, h⟩ := sd_gu_go h
      refine sm_W.runL (sm_C_mono D) 2 (G := sm_in (0 : Int32) 1 = true ∧ True) (e := (sd_upJ J 96 0 (Int32.toInt64 r1))) (fr' := fun _ => (10, [some (.ref 0), some (.int x1), some (.int x2), some (.int x3), some (.int x4), some (.ref 96), none], [], 2, 12)) (M' := fun J4 => (I2, J4, sm_rf 21 d)) rfl h ⟨g3, trivial⟩ (fun J4 h => ?_)
      refine sm_W.run (sm_C_mono D) 2 (G := True) (fr' := (15, [some (.ref 0), some (.int x1), some (.int x2), some (.int x3), some (.int x4), some (.ref 96), none], [.int (0 : Int32)], 2, 12)) (M' := (I2, J4, sm_rf 21 d)) rfl trivial ?_
      cases h
      exact sm_W.ret (sm_C_mono D) rfl hQ
    · refine sm_W.cal (sm_C_mono D) (y := 137) (as := [.ref 0, .int x1, .int x2, .int x3, .int x4]) (fr' := (8, [some (.ref 0), some (.int x1), some (.int x2), some (.int x3), some (.int x4), some (.ref 96), none], [.int (0 : Int32), .ref 96], 2, 12)) rfl (T_VM_hear (by omega) (by decide) hc (fun _ e => by cases e) (fun _ e => ?_))
      cases e
      rcases sd_if_go h with ⟨he, h⟩ | ⟨he, h⟩
      · subst he
        show sm_W sm_sh X (sm_C sm_sh X sm_P D) me_286 Q (12, [some (.ref 0), some (.int x1), some (.int x2), some (.int x3), some (.int x4), some (.ref 96), none], [], 2, 12) (I2, J, sm_rf 21 d)
        refine sm_W.run (sm_C_mono D) 1 (G := True) (fr' := (13, [some (.ref 0), some (.int x1), some (.int x2), some (.int x3), some (.int x4), some (.ref 96), none], [.int (1 : Int32)], 2, 12)) (M' := (I2, J, sm_rf 21 d)) rfl trivial ?_
        cases h
        exact sm_W.ret (sm_C_mono D) rfl hQ
      cases h
  · skip
    refine sm_W.run (sm_C_mono D) 7 (G := True) (fr' := (7, [some (.ref 0), some (.int x1), some (.int x2), some (.int x3), some (.int x4), some (.ref 96), none], [.int x4, .int x3, .int x2, .int x1, .ref 0, .int (0 : Int32), .ref 96], 0, 0)) (M' := (I, J, sm_rf 41 d)) rfl trivial ?_
    rcases sd_t2_go h with ⟨r1, I2, hc, h⟩ | ⟨r1, I2, hc, h⟩
    · refine sm_W.cal (sm_C_mono D) (y := 137) (as := [.ref 0, .int x1, .int x2, .int x3, .int x4]) (fr' := (8, [some (.ref 0), some (.int x1), some (.int x2), some (.int x3), some (.int x4), some (.ref 96), none], [.int (0 : Int32), .ref 96], 2, 12)) rfl (T_VM_hear (by omega) (by decide) hc (fun _ e => ?_) (fun _ e => by cases e))
      cases e
      show sm_W sm_sh X (sm_C sm_sh X sm_P D) me_286 Q (8, [some (.ref 0), some (.int x1), some (.int x2), some (.int x3), some (.int x4), some (.ref 96), none], [.int r1, .int (0 : Int32), .ref 96], 2, 12) (I2, J, sm_rf 41 d)
      obtain ⟨g3, h⟩ := sd_gu_go h
      refine sm_W.runL (sm_C_mono D) 2 (G := sm_in (0 : Int32) 1 = true ∧ True) (e := (sd_upJ J 96 0 (Int32.toInt64 r1))) (fr' := fun _ => (10, [some (.ref 0), some (.int x1), some (.int x2), some (.int x3), some (.int x4), some (.ref 96), none], [], 2, 12)) (M' := fun J4 => (I2, J4, sm_rf 41 d)) rfl h ⟨g3, trivial⟩ (fun J4 h => ?_)
      refine sm_W.run (sm_C_mono D) 2 (G := True) (fr' := (15, [some (.ref 0), some (.int x1), some (.int x2), some (.int x3), some (.int x4), some (.ref 96), none], [.int (0 : Int32)], 2, 12)) (M' := (I2, J4, sm_rf 41 d)) rfl trivial ?_
      cases h
      exact sm_W.ret (sm_C_mono D) rfl hQ
    · refine sm_W.cal (sm_C_mono D) (y := 137) (as := [.ref 0, .int x1, .int x2, .int x3, .int x4]) (fr' := (8, [some (.ref 0), some (.int x1), some (.int x2), some (.int x3), some (.int x4), some (.ref 96), none], [.int (0 : Int32), .ref 96], 2, 12)) rfl (T_VM_hear (by omega) (by decide) hc (fun _ e => by cases e) (fun _ e => ?_))
      cases e
      rcases sd_if_go h with ⟨he, h⟩ | ⟨he, h⟩
      · subst he
        show sm_W sm_sh X (sm_C sm_sh X sm_P D) me_286 Q (12, [some (.ref 0), some (.int x1), some (.int x2), some (.int x3), some (.int x4), some (.ref 96), none], [], 2, 12) (I2, J, sm_rf 41 d)
        refine sm_W.run (sm_C_mono D) 1 (G := True) (fr' := (13, [some (.ref 0), some (.int x1), some (.int x2), some (.int x3), some (.int x4), some (.ref 96), none], [.int (1 : Int32)], 2, 12)) (M' := (I2, J, sm_rf 41 d)) rfl trivial ?_
        cases h
        exact sm_W.ret (sm_C_mono D) rfl hQ
      cases h
theorem T_Law_hear {X : Nat × (Nat → Int32)} {t d D : Nat} {Q : sm_Q} {I : sm_MI} {J : sm_MJ} {x1 : Int32} {x2 : Int32} {x3 : Int32} {x4 : Int32} {rz : Int32} {Iz : sm_MI} {Jz : sm_MJ}
    (hD : 4 ≤ D) (ht : t = 21 ∨ t = 41) (h : F_Law_hear t x1 x2 x3 x4 I J = some (rz, Iz, Jz)) (hQ : Q (.inl (some (.int rz))) (Iz, Jz, sm_rf t d)) : sm_C sm_sh X sm_P D 286 [.ref 0, .int x1, .int x2, .int x3, .int x4, .ref 96] (I, J, sm_rf t d) Q := by
  cases D with
  | zero => omega
  | succ D => exact sm_C.of (me := me_286) (L := [some (.ref 0), some (.int x1), some (.int x2), some (.int x3), some (.int x4), some (.ref 96), none]) rfl rfl rfl (sm_W.forget (L' := [some (.ref 0), some (.int x1), some (.int x2), some (.int x3), some (.int x4), some (.ref 96), none]) ⟨rfl, ⟨rfl, ⟨rfl, ⟨rfl, ⟨rfl, ⟨rfl, trivial⟩⟩⟩⟩⟩⟩ (G_Law_hear (by omega) ht h hQ))
-- 287 Law_flat
noncomputable def F_Law_flat (t : Nat) (x1 : Int32) (I : sm_MI) (J : sm_MJ) : Option (Int32 × sm_MJ) :=
  sd_t1 (F_VM_flat t x1 I) (fun r1 =>
    sd_gu (sm_in (0 : Int32) 1 = true) <|
    sd_lt (sd_upJ J 96 0 (Int32.toInt64 r1)) fun J3 =>
    some ((0 : Int32), J3))
    (fun r1 => if r1 = 1 then
    some ((1 : Int32), J)
  else none)
theorem G_Law_flat {X : Nat × (Nat → Int32)} {t d D : Nat} {Q : sm_Q} {I : sm_MI} {J : sm_MJ} {x1 : Int32} {rz : Int32} {Jz : sm_MJ}
    (hD : 2 ≤ D) (ht : t = 21 ∨ t = 41) (h : F_Law_flat t x1 I J = some (rz, Jz)) (hQ : Q (.inl (some (.int rz))) (I, Jz, sm_rf t d))  : sm_W sm_sh X (sm_C sm_sh X sm_P D) me_287 Q (0, [some (.ref 0), some (.int x1), some (.ref 96), none], [], 0, 0) (I, J, sm_rf t d) := by
  unfold F_Law_flat at h
  rcases ht with rfl | rfl
  · skip
    refine sm_W.run (sm_C_mono D) 4 (G := True) (fr' := (4, [some (.ref 0), some (.int x1), some (.ref 96), none], [.int x1, .ref 0, .int (0 : Int32), .ref 96], 0, 0)) (M' := (I, J, sm_rf 21 d)) rfl trivial ?_
    rcases sd_t1_go h with ⟨r1, hc, h⟩ | ⟨r1, hc, h⟩
    · refine sm_W.cal (sm_C_mono D) (y := 138) (as := [.ref 0, .int x1]) (fr' := (5, [some (.ref 0), some (.int x1), some (.ref 96), none], [.int (0 : Int32), .ref 96], 1, 6)) rfl (T_VM_flat (by omega) (by decide) hc (fun _ e => ?_) (fun _ e => by cases e))
      cases e
      show sm_W sm_sh X (sm_C sm_sh X sm_P D) me_287 Q (5, [some (.ref 0), some (.int x1), some (.ref 96), none], [.int r1, .int (0 : Int32), .ref 96], 1, 6) (I, J, sm_rf 21 d)
      obtain ⟨g2, h⟩ := sd_gu_go h
      refine sm_W.runL (sm_C_mono D) 2 (G := sm_in (0 : Int32) 1 = true ∧ True) (e := (sd_upJ J 96 0 (Int32.toInt64 r1))) (fr' := fun _ => (7, [some (.ref 0), some (.int x1), some (.ref 96), none], [], 1, 6)) (M' := fun J3 => (I, J3, sm_rf 21 d)) rfl h ⟨g2, trivial⟩ (fun J3 h => ?_)
      refine sm_W.run (sm_C_mono D) 2 (G := True) (fr' := (12, [some (.ref 0), some (.int x1), some (.ref 96), none], [.int (0 : Int32)], 1, 6)) (M' := (I, J3, sm_rf 21 d)) rfl trivial ?_
      cases h
      exact sm_W.ret (sm_C_mono D) rfl hQ
    · refine sm_W.cal (sm_C_mono D) (y := 138) (as := [.ref 0, .int x1]) (fr' := (5, [some (.ref 0), some (.int x1), some (.ref 96), none], [.int (0 : Int32), .ref 96], 1, 6)) rfl (T_VM_flat (by omega) (by decide) hc (fun _ e => by cases e) (fun _ e => ?_))
      cases e
      rcases sd_if_go h with ⟨he, h⟩ | ⟨he, h⟩
      · subst he
        show sm_W sm_sh X (sm_C sm_sh X sm_P D) me_287 Q (9, [some (.ref 0), some (.int x1), some (.ref 96), none], [], 1, 6) (I, J, sm_rf 21 d)
        refine sm_W.run (sm_C_mono D) 1 (G := True) (fr' := (10, [some (.ref 0), some (.int x1), some (.ref 96), none], [.int (1 : Int32)], 1, 6)) (M' := (I, J, sm_rf 21 d)) rfl trivial ?_
        cases h
        exact sm_W.ret (sm_C_mono D) rfl hQ
      cases h
  · skip
    refine sm_W.run (sm_C_mono D) 4 (G := True) (fr' := (4, [some (.ref 0), some (.int x1), some (.ref 96), none], [.int x1, .ref 0, .int (0 : Int32), .ref 96], 0, 0)) (M' := (I, J, sm_rf 41 d)) rfl trivial ?_
    rcases sd_t1_go h with ⟨r1, hc, h⟩ | ⟨r1, hc, h⟩
    · refine sm_W.cal (sm_C_mono D) (y := 138) (as := [.ref 0, .int x1]) (fr' := (5, [some (.ref 0), some (.int x1), some (.ref 96), none], [.int (0 : Int32), .ref 96], 1, 6)) rfl (T_VM_flat (by omega) (by decide) hc (fun _ e => ?_) (fun _ e => by cases e))
      cases e
      show sm_W sm_sh X (sm_C sm_sh X sm_P D) me_287 Q (5, [some (.ref 0), some (.int x1), some (.ref 96), none], [.int r1, .int (0 : Int32), .ref 96], 1, 6) (I, J, sm_rf 41 d)
      obtain ⟨g2, h⟩ := sd_gu_go h
      refine sm_W.runL (sm_C_mono D) 2 (G := sm_in (0 : Int32) 1 = true ∧ True) (e := (sd_upJ J 96 0 (Int32.toInt64 r1))) (fr' := fun _ => (7, [some (.ref 0), some (.int x1), some (.ref 96), none], [], 1, 6)) (M' := fun J3 => (I, J3, sm_rf 41 d)) rfl h ⟨g2, trivial⟩ (fun J3 h => ?_)
      refine sm_W.run (sm_C_mono D) 2 (G := True) (fr' := (12, [some (.ref 0), some (.int x1), some (.ref 96), none], [.int (0 : Int32)], 1, 6)) (M' := (I, J3, sm_rf 41 d)) rfl trivial ?_
      cases h
      exact sm_W.ret (sm_C_mono D) rfl hQ
    · refine sm_W.cal (sm_C_mono D) (y := 138) (as := [.ref 0, .int x1]) (fr' := (5, [some (.ref 0), some (.int x1), some (.ref 96), none], [.int (0 : Int32), .ref 96], 1, 6)) rfl (T_VM_flat (by omega) (by decide) hc (fun _ e => by cases e) (fun _ e => ?_))
      cases e
      rcases sd_if_go h with ⟨he, h⟩ | ⟨he, h⟩
      · subst he
        show sm_W sm_sh X (sm_C sm_sh X sm_P D) me_287 Q (9, [some (.ref 0), some (.int x1), some (.ref 96), none], [], 1, 6) (I, J, sm_rf 41 d)
        refine sm_W.run (sm_C_mono D) 1 (G := True) (fr' := (10, [some (.ref 0), some (.int x1), some (.ref 96), none], [.int (1 : Int32)], 1, 6)) (M' := (I, J, sm_rf 41 d)) rfl trivial ?_
        cases h
        exact sm_W.ret (sm_C_mono D) rfl hQ
      cases h
theorem T_Law_flat {X : Nat × (Nat → Int32)} {t d D : Nat} {Q : sm_Q} {I : sm_MI} {J : sm_MJ} {x1 : Int32} {rz : Int32} {Jz : sm_MJ}
    (hD : 3 ≤ D) (ht : t = 21 ∨ t = 41) (h : F_Law_flat t x1 I J = some (rz, Jz)) (hQ : Q (.inl (some (.int rz))) (I, Jz, sm_rf t d)) : sm_C sm_sh X sm_P D 287 [.ref 0, .int x1, .ref 96] (I, J, sm_rf t d) Q := by
  cases D with
  | zero => omega
  | succ D => exact sm_C.of (me := me_287) (L := [some (.ref 0), some (.int x1), some (.ref 96), none]) rfl rfl rfl (sm_W.forget (L' := [some (.ref 0), some (.int x1), some (.ref 96), none]) ⟨rfl, ⟨rfl, ⟨rfl, trivial⟩⟩⟩ (G_Law_flat (by omega) ht h hQ))
-- 288 Law_game
noncomputable def F_Law_game (t : Nat) (x1 : Int32) (x2 : Int32) (I : sm_MI) (J : sm_MJ) : Option (Int32 × sm_MI × sm_MJ) :=
  sd_t2 (F_VM_game t x1 x2 I) (fun r1 I2 =>
    sd_gu (sm_in (0 : Int32) 1 = true) <|
    sd_lt (sd_upJ J 96 0 (Int32.toInt64 r1)) fun J4 =>
    some ((0 : Int32), I2, J4))
    (fun r1 I2 => if r1 = 1 then
    some ((1 : Int32), I2, J)
  else if r1 = 0 then
    some ((2 : Int32), I2, J)
  else none)
theorem G_Law_game {X : Nat × (Nat → Int32)} {t d D : Nat} {Q : sm_Q} {I : sm_MI} {J : sm_MJ} {x1 : Int32} {x2 : Int32} {rz : Int32} {Iz : sm_MI} {Jz : sm_MJ}
    (hD : 7 ≤ D) (ht : t = 21 ∨ t = 41) (h : F_Law_game t x1 x2 I J = some (rz, Iz, Jz)) (hQ : Q (.inl (some (.int rz))) (Iz, Jz, sm_rf t d))  : sm_W sm_sh X (sm_C sm_sh X sm_P D) me_288 Q (0, [some (.ref 0), some (.int x1), some (.int x2), some (.ref 96), none], [], 0, 0) (I, J, sm_rf t d) := by
  unfold F_Law_game at h
  rcases ht with rfl | rfl
  · skip
    refine sm_W.run (sm_C_mono D) 5 (G := True) (fr' := (5, [some (.ref 0), some (.int x1), some (.int x2), some (.ref 96), none], [.int x2, .int x1, .ref 0, .int (0 : Int32), .ref 96], 0, 0)) (M' := (I, J, sm_rf 21 d)) rfl trivial ?_
    rcases sd_t2_go h with ⟨r1, I2, hc, h⟩ | ⟨r1, I2, hc, h⟩
    · refine sm_W.cal (sm_C_mono D) (y := 149) (as := [.ref 0, .int x1, .int x2]) (fr' := (6, [some (.ref 0), some (.int x1), some (.int x2), some (.ref 96), none], [.int (0 : Int32), .ref 96], 1, 6)) rfl (T_VM_game (by omega) (by decide) hc (fun _ e => ?_) (fun _ e => by cases e))
      cases e
      show sm_W sm_sh X (sm_C sm_sh X sm_P D) me_288 Q (6, [some (.ref 0), some (.int x1), some (.int x2), some (.ref 96), none], [.int r1, .int (0 : Int32), .ref 96], 1, 6) (I2, J, sm_rf 21 d)
      obtain ⟨g3, h⟩ := sd_gu_go h
      refine sm_W.runL (sm_C_mono D) 2 (G := sm_in (0 : Int32) 1 = true ∧ True) (e := (sd_upJ J 96 0 (Int32.toInt64 r1))) (fr' := fun _ => (8, [some (.ref 0), some (.int x1), some (.int x2), some (.ref 96), none], [], 1, 6)) (M' := fun J4 => (I2, J4, sm_rf 21 d)) rfl h ⟨g3, trivial⟩ (fun J4 h => ?_)
      refine sm_W.run (sm_C_mono D) 2 (G := True) (fr' := (16, [some (.ref 0), some (.int x1), some (.int x2), some (.ref 96), none], [.int (0 : Int32)], 1, 6)) (M' := (I2, J4, sm_rf 21 d)) rfl trivial ?_
      cases h
      exact sm_W.ret (sm_C_mono D) rfl hQ
    · refine sm_W.cal (sm_C_mono D) (y := 149) (as := [.ref 0, .int x1, .int x2]) (fr' := (6, [some (.ref 0), some (.int x1), some (.int x2), some (.ref 96), none], [.int (0 : Int32), .ref 96], 1, 6)) rfl (T_VM_game (by omega) (by decide) hc (fun _ e => by cases e) (fun _ e => ?_))
      cases e
      rcases sd_if_go h with ⟨he, h⟩ | ⟨he, h⟩
      · subst he
        show sm_W sm_sh X (sm_C sm_sh X sm_P D) me_288 Q (10, [some (.ref 0), some (.int x1), some (.int x2), some (.ref 96), none], [], 1, 6) (I2, J, sm_rf 21 d)
        refine sm_W.run (sm_C_mono D) 1 (G := True) (fr' := (11, [some (.ref 0), some (.int x1), some (.int x2), some (.ref 96), none], [.int (1 : Int32)], 1, 6)) (M' := (I2, J, sm_rf 21 d)) rfl trivial ?_
        cases h
        exact sm_W.ret (sm_C_mono D) rfl hQ
      rcases sd_if_go h with ⟨he, h⟩ | ⟨he, h⟩
      · subst he
        show sm_W sm_sh X (sm_C sm_sh X sm_P D) me_288 Q (13, [some (.ref 0), some (.int x1), some (.int x2), some (.ref 96), none], [], 1, 6) (I2, J, sm_rf 21 d)
        refine sm_W.run (sm_C_mono D) 1 (G := True) (fr' := (14, [some (.ref 0), some (.int x1), some (.int x2), some (.ref 96), none], [.int (2 : Int32)], 1, 6)) (M' := (I2, J, sm_rf 21 d)) rfl trivial ?_
        cases h
        exact sm_W.ret (sm_C_mono D) rfl hQ
      cases h
  · skip
    refine sm_W.run (sm_C_mono D) 5 (G := True) (fr' := (5, [some (.ref 0), some (.int x1), some (.int x2), some (.ref 96), none], [.int x2, .int x1, .ref 0, .int (0 : Int32), .ref 96], 0, 0)) (M' := (I, J, sm_rf 41 d)) rfl trivial ?_
    rcases sd_t2_go h with ⟨r1, I2, hc, h⟩ | ⟨r1, I2, hc, h⟩
    · refine sm_W.cal (sm_C_mono D) (y := 149) (as := [.ref 0, .int x1, .int x2]) (fr' := (6, [some (.ref 0), some (.int x1), some (.int x2), some (.ref 96), none], [.int (0 : Int32), .ref 96], 1, 6)) rfl (T_VM_game (by omega) (by decide) hc (fun _ e => ?_) (fun _ e => by cases e))
      cases e
      show sm_W sm_sh X (sm_C sm_sh X sm_P D) me_288 Q (6, [some (.ref 0), some (.int x1), some (.int x2), some (.ref 96), none], [.int r1, .int (0 : Int32), .ref 96], 1, 6) (I2, J, sm_rf 41 d)
      obtain ⟨g3, h⟩ := sd_gu_go h
      refine sm_W.runL (sm_C_mono D) 2 (G := sm_in (0 : Int32) 1 = true ∧ True) (e := (sd_upJ J 96 0 (Int32.toInt64 r1))) (fr' := fun _ => (8, [some (.ref 0), some (.int x1), some (.int x2), some (.ref 96), none], [], 1, 6)) (M' := fun J4 => (I2, J4, sm_rf 41 d)) rfl h ⟨g3, trivial⟩ (fun J4 h => ?_)
      refine sm_W.run (sm_C_mono D) 2 (G := True) (fr' := (16, [some (.ref 0), some (.int x1), some (.int x2), some (.ref 96), none], [.int (0 : Int32)], 1, 6)) (M' := (I2, J4, sm_rf 41 d)) rfl trivial ?_
      cases h
      exact sm_W.ret (sm_C_mono D) rfl hQ
    · refine sm_W.cal (sm_C_mono D) (y := 149) (as := [.ref 0, .int x1, .int x2]) (fr' := (6, [some (.ref 0), some (.int x1), some (.int x2), some (.ref 96), none], [.int (0 : Int32), .ref 96], 1, 6)) rfl (T_VM_game (by omega) (by decide) hc (fun _ e => by cases e) (fun _ e => ?_))
      cases e
      rcases sd_if_go h with ⟨he, h⟩ | ⟨he, h⟩
      · subst he
        show sm_W sm_sh X (sm_C sm_sh X sm_P D) me_288 Q (10, [some (.ref 0), some (.int x1), some (.int x2), some (.ref 96), none], [], 1, 6) (I2, J, sm_rf 41 d)
        refine sm_W.run (sm_C_mono D) 1 (G := True) (fr' := (11, [some (.ref 0), some (.int x1), some (.int x2), some (.ref 96), none], [.int (1 : Int32)], 1, 6)) (M' := (I2, J, sm_rf 41 d)) rfl trivial ?_
        cases h
        exact sm_W.ret (sm_C_mono D) rfl hQ
      rcases sd_if_go h with ⟨he, h⟩ | ⟨he, h⟩
      · subst he
        show sm_W sm_sh X (sm_C sm_sh X sm_P D) me_288 Q (13, [some (.ref 0), some (.int x1), some (.int x2), some (.ref 96), none], [], 1, 6) (I2, J, sm_rf 41 d)
        refine sm_W.run (sm_C_mono D) 1 (G := True) (fr' := (14, [some (.ref 0), some (.int x1), some (.int x2), some (.ref 96), none], [.int (2 : Int32)], 1, 6)) (M' := (I2, J, sm_rf 41 d)) rfl trivial ?_
        cases h
        exact sm_W.ret (sm_C_mono D) rfl hQ
      cases h
theorem T_Law_game {X : Nat × (Nat → Int32)} {t d D : Nat} {Q : sm_Q} {I : sm_MI} {J : sm_MJ} {x1 : Int32} {x2 : Int32} {rz : Int32} {Iz : sm_MI} {Jz : sm_MJ}
    (hD : 8 ≤ D) (ht : t = 21 ∨ t = 41) (h : F_Law_game t x1 x2 I J = some (rz, Iz, Jz)) (hQ : Q (.inl (some (.int rz))) (Iz, Jz, sm_rf t d)) : sm_C sm_sh X sm_P D 288 [.ref 0, .int x1, .int x2, .ref 96] (I, J, sm_rf t d) Q := by
  cases D with
  | zero => omega
  | succ D => exact sm_C.of (me := me_288) (L := [some (.ref 0), some (.int x1), some (.int x2), some (.ref 96), none]) rfl rfl rfl (sm_W.forget (L' := [some (.ref 0), some (.int x1), some (.int x2), some (.ref 96), none]) ⟨rfl, ⟨rfl, ⟨rfl, ⟨rfl, trivial⟩⟩⟩⟩ (G_Law_game (by omega) ht h hQ))
-- 289 Law_wars
noncomputable def F_Law_wars (t : Nat) (x1 : Int32) (x2 : Int32) (x3 : Int32) (I : sm_MI) (J : sm_MJ) : Option (Int32 × sm_MI × sm_MJ) :=
  sd_t2 (F_VM_wars t x1 x2 x3 I) (fun r1 I2 =>
    sd_gu (sm_in (0 : Int32) 1 = true) <|
    sd_lt (sd_upJ J 96 0 (Int32.toInt64 r1)) fun J4 =>
    some ((0 : Int32), I2, J4))
    (fun r1 I2 => if r1 = 1 then
    some ((1 : Int32), I2, J)
  else if r1 = 0 then
    some ((2 : Int32), I2, J)
  else none)
theorem G_Law_wars {X : Nat × (Nat → Int32)} {t d D : Nat} {Q : sm_Q} {I : sm_MI} {J : sm_MJ} {x1 : Int32} {x2 : Int32} {x3 : Int32} {rz : Int32} {Iz : sm_MI} {Jz : sm_MJ}
    (hD : 7 ≤ D) (ht : t = 21 ∨ t = 41) (h : F_Law_wars t x1 x2 x3 I J = some (rz, Iz, Jz)) (hQ : Q (.inl (some (.int rz))) (Iz, Jz, sm_rf t d))  : sm_W sm_sh X (sm_C sm_sh X sm_P D) me_289 Q (0, [some (.ref 0), some (.int x1), some (.int x2), some (.int x3), some (.ref 96), none], [], 0, 0) (I, J, sm_rf t d) := by
  unfold F_Law_wars at h
  rcases ht with rfl | rfl
  · skip
    refine sm_W.run (sm_C_mono D) 6 (G := True) (fr' := (6, [some (.ref 0), some (.int x1), some (.int x2), some (.int x3), some (.ref 96), none], [.int x3, .int x2, .int x1, .ref 0, .int (0 : Int32), .ref 96], 0, 0)) (M' := (I, J, sm_rf 21 d)) rfl trivial ?_
    rcases sd_t2_go h with ⟨r1, I2, hc, h⟩ | ⟨r1, I2, hc, h⟩
    · refine sm_W.cal (sm_C_mono D) (y := 150) (as := [.ref 0, .int x1, .int x2, .int x3]) (fr' := (7, [some (.ref 0), some (.int x1), some (.int x2), some (.int x3), some (.ref 96), none], [.int (0 : Int32), .ref 96], 1, 6)) rfl (T_VM_wars (by omega) (by decide) hc (fun _ e => ?_) (fun _ e => by cases e))
      cases e
      show sm_W sm_sh X (sm_C sm_sh X sm_P D) me_289 Q (7, [some (.ref 0), some (.int x1), some (.int x2), some (.int x3), some (.ref 96), none], [.int r1, .int (0 : Int32), .ref 96], 1, 6) (I2, J, sm_rf 21 d)
      obtain ⟨g3, h⟩ := sd_gu_go h
      refine sm_W.runL (sm_C_mono D) 2 (G := sm_in (0 : Int32) 1 = true ∧ True) (e := (sd_upJ J 96 0 (Int32.toInt64 r1))) (fr' := fun _ => (9, [some (.ref 0), some (.int x1), some (.int x2), some (.int x3), some (.ref 96), none], [], 1, 6)) (M' := fun J4 => (I2, J4, sm_rf 21 d)) rfl h ⟨g3, trivial⟩ (fun J4 h => ?_)
      refine sm_W.run (sm_C_mono D) 2 (G := True) (fr' := (17, [some (.ref 0), some (.int x1), some (.int x2), some (.int x3), some (.ref 96), none], [.int (0 : Int32)], 1, 6)) (M' := (I2, J4, sm_rf 21 d)) rfl trivial ?_
      cases h
      exact sm_W.ret (sm_C_mono D) rfl hQ
    · refine sm_W.cal (sm_C_mono D) (y := 150) (as := [.ref 0, .int x1, .int x2, .int x3]) (fr' := (7, [some (.ref 0), some (.int x1), some (.int x2), some (.int x3), some (.ref 96), none], [.int (0 : Int32), .ref 96], 1, 6)) rfl (T_VM_wars (by omega) (by decide) hc (fun _ e => by cases e) (fun _ e => ?_))
      cases e
      rcases sd_if_go h with ⟨he, h⟩ | ⟨he, h⟩
      · subst he
        show sm_W sm_sh X (sm_C sm_sh X sm_P D) me_289 Q (11, [some (.ref 0), some (.int x1), some (.int x2), some (.int x3), some (.ref 96), none], [], 1, 6) (I2, J, sm_rf 21 d)
        refine sm_W.run (sm_C_mono D) 1 (G := True) (fr' := (12, [some (.ref 0), some (.int x1), some (.int x2), some (.int x3), some (.ref 96), none], [.int (1 : Int32)], 1, 6)) (M' := (I2, J, sm_rf 21 d)) rfl trivial ?_
        cases h
        exact sm_W.ret (sm_C_mono D) rfl hQ
      rcases sd_if_go h with ⟨he, h⟩ | ⟨he, h⟩
      · subst he
        show sm_W sm_sh X (sm_C sm_sh X sm_P D) me_289 Q (14, [some (.ref 0), some (.int x1), some (.int x2), some (.int x3), some (.ref 96), none], [], 1, 6) (I2, J, sm_rf 21 d)
        refine sm_W.run (sm_C_mono D) 1 (G := True) (fr' := (15, [some (.ref 0), some (.int x1), some (.int x2), some (.int x3), some (.ref 96), none], [.int (2 : Int32)], 1, 6)) (M' := (I2, J, sm_rf 21 d)) rfl trivial ?_
        cases h
        exact sm_W.ret (sm_C_mono D) rfl hQ
      cases h
  · skip
    refine sm_W.run (sm_C_mono D) 6 (G := True) (fr' := (6, [some (.ref 0), some (.int x1), some (.int x2), some (.int x3), some (.ref 96), none], [.int x3, .int x2, .int x1, .ref 0, .int (0 : Int32), .ref 96], 0, 0)) (M' := (I, J, sm_rf 41 d)) rfl trivial ?_
    rcases sd_t2_go h with ⟨r1, I2, hc, h⟩ | ⟨r1, I2, hc, h⟩
    · refine sm_W.cal (sm_C_mono D) (y := 150) (as := [.ref 0, .int x1, .int x2, .int x3]) (fr' := (7, [some (.ref 0), some (.int x1), some (.int x2), some (.int x3), some (.ref 96), none], [.int (0 : Int32), .ref 96], 1, 6)) rfl (T_VM_wars (by omega) (by decide) hc (fun _ e => ?_) (fun _ e => by cases e))
      cases e
      show sm_W sm_sh X (sm_C sm_sh X sm_P D) me_289 Q (7, [some (.ref 0), some (.int x1), some (.int x2), some (.int x3), some (.ref 96), none], [.int r1, .int (0 : Int32), .ref 96], 1, 6) (I2, J, sm_rf 41 d)
      obtain ⟨g3, h⟩ := sd_gu_go h
      refine sm_W.runL (sm_C_mono D) 2 (G := sm_in (0 : Int32) 1 = true ∧ True) (e := (sd_upJ J 96 0 (Int32.toInt64 r1))) (fr' := fun _ => (9, [some (.ref 0), some (.int x1), some (.int x2), some (.int x3), some (.ref 96), none], [], 1, 6)) (M' := fun J4 => (I2, J4, sm_rf 41 d)) rfl h ⟨g3, trivial⟩ (fun J4 h => ?_)
      refine sm_W.run (sm_C_mono D) 2 (G := True) (fr' := (17, [some (.ref 0), some (.int x1), some (.int x2), some (.int x3), some (.ref 96), none], [.int (0 : Int32)], 1, 6)) (M' := (I2, J4, sm_rf 41 d)) rfl trivial ?_
      cases h
      exact sm_W.ret (sm_C_mono D) rfl hQ
    · refine sm_W.cal (sm_C_mono D) (y := 150) (as := [.ref 0, .int x1, .int x2, .int x3]) (fr' := (7, [some (.ref 0), some (.int x1), some (.int x2), some (.int x3), some (.ref 96), none], [.int (0 : Int32), .ref 96], 1, 6)) rfl (T_VM_wars (by omega) (by decide) hc (fun _ e => by cases e) (fun _ e => ?_))
      cases e
      rcases sd_if_go h with ⟨he, h⟩ | ⟨he, h⟩
      · subst he
        show sm_W sm_sh X (sm_C sm_sh X sm_P D) me_289 Q (11, [some (.ref 0), some (.int x1), some (.int x2), some (.int x3), some (.ref 96), none], [], 1, 6) (I2, J, sm_rf 41 d)
        refine sm_W.run (sm_C_mono D) 1 (G := True) (fr' := (12, [some (.ref 0), some (.int x1), some (.int x2), some (.int x3), some (.ref 96), none], [.int (1 : Int32)], 1, 6)) (M' := (I2, J, sm_rf 41 d)) rfl trivial ?_
        cases h
        exact sm_W.ret (sm_C_mono D) rfl hQ
      rcases sd_if_go h with ⟨he, h⟩ | ⟨he, h⟩
      · subst he
        show sm_W sm_sh X (sm_C sm_sh X sm_P D) me_289 Q (14, [some (.ref 0), some (.int x1), some (.int x2), some (.int x3), some (.ref 96), none], [], 1, 6) (I2, J, sm_rf 41 d)
        refine sm_W.run (sm_C_mono D) 1 (G := True) (fr' := (15, [some (.ref 0), some (.int x1), some (.int x2), some (.int x3), some (.ref 96), none], [.int (2 : Int32)], 1, 6)) (M' := (I2, J, sm_rf 41 d)) rfl trivial ?_
        cases h
        exact sm_W.ret (sm_C_mono D) rfl hQ
      cases h
theorem T_Law_wars {X : Nat × (Nat → Int32)} {t d D : Nat} {Q : sm_Q} {I : sm_MI} {J : sm_MJ} {x1 : Int32} {x2 : Int32} {x3 : Int32} {rz : Int32} {Iz : sm_MI} {Jz : sm_MJ}
    (hD : 8 ≤ D) (ht : t = 21 ∨ t = 41) (h : F_Law_wars t x1 x2 x3 I J = some (rz, Iz, Jz)) (hQ : Q (.inl (some (.int rz))) (Iz, Jz, sm_rf t d)) : sm_C sm_sh X sm_P D 289 [.ref 0, .int x1, .int x2, .int x3, .ref 96] (I, J, sm_rf t d) Q := by
  cases D with
  | zero => omega
  | succ D => exact sm_C.of (me := me_289) (L := [some (.ref 0), some (.int x1), some (.int x2), some (.int x3), some (.ref 96), none]) rfl rfl rfl (sm_W.forget (L' := [some (.ref 0), some (.int x1), some (.int x2), some (.int x3), some (.ref 96), none]) ⟨rfl, ⟨rfl, ⟨rfl, ⟨rfl, ⟨rfl, trivial⟩⟩⟩⟩⟩ (G_Law_wars (by omega) ht h hQ))
-- 290 Law_cast
noncomputable def F_Law_cast (t : Nat) (x1 : Int32) (x2 : Int32) (I : sm_MI) (J : sm_MJ) : Option (Int32 × sm_MJ) :=
  sd_t1 (F_VM_cast t x1 x2 I) (fun r1 =>
    sd_gu (sm_in (0 : Int32) 1 = true) <|
    sd_lt (sd_upJ J 96 0 (Int32.toInt64 r1)) fun J3 =>
    some ((0 : Int32), J3))
    (fun r1 => if r1 = 1 then
    some ((1 : Int32), J)
  else none)
theorem G_Law_cast {X : Nat × (Nat → Int32)} {t d D : Nat} {Q : sm_Q} {I : sm_MI} {J : sm_MJ} {x1 : Int32} {x2 : Int32} {rz : Int32} {Jz : sm_MJ}
    (hD : 3 ≤ D) (ht : t = 21 ∨ t = 41) (h : F_Law_cast t x1 x2 I J = some (rz, Jz)) (hQ : Q (.inl (some (.int rz))) (I, Jz, sm_rf t d))  : sm_W sm_sh X (sm_C sm_sh X sm_P D) me_290 Q (0, [some (.ref 0), some (.int x1), some (.int x2), some (.ref 96), none], [], 0, 0) (I, J, sm_rf t d) := by
  unfold F_Law_cast at h
  rcases ht with rfl | rfl
  · skip
    refine sm_W.run (sm_C_mono D) 5 (G := True) (fr' := (5, [some (.ref 0), some (.int x1), some (.int x2), some (.ref 96), none], [.int x2, .int x1, .ref 0, .int (0 : Int32), .ref 96], 0, 0)) (M' := (I, J, sm_rf 21 d)) rfl trivial ?_
    rcases sd_t1_go h with ⟨r1, hc, h⟩ | ⟨r1, hc, h⟩
    · refine sm_W.cal (sm_C_mono D) (y := 129) (as := [.ref 0, .int x1, .int x2]) (fr' := (6, [some (.ref 0), some (.int x1), some (.int x2), some (.ref 96), none], [.int (0 : Int32), .ref 96], 2, 12)) rfl (T_VM_cast (by omega) (by decide) hc (fun _ e => ?_) (fun _ e => by cases e))
      cases e
      show sm_W sm_sh X (sm_C sm_sh X sm_P D) me_290 Q (6, [some (.ref 0), some (.int x1), some (.int x2), some (.ref 96), none], [.int r1, .int (0 : Int32), .ref 96], 2, 12) (I, J, sm_rf 21 d)
      obtain ⟨g2, h⟩ := sd_gu_go h
      refine sm_W.runL (sm_C_mono D) 2 (G := sm_in (0 : Int32) 1 = true ∧ True) (e := (sd_upJ J 96 0 (Int32.toInt64 r1))) (fr' := fun _ => (8, [some (.ref 0), some (.int x1), some (.int x2), some (.ref 96), none], [], 2, 12)) (M' := fun J3 => (I, J3, sm_rf 21 d)) rfl h ⟨g2, trivial⟩ (fun J3 h => ?_)
      refine sm_W.run (sm_C_mono D) 2 (G := True) (fr' := (13, [some (.ref 0), some (.int x1), some (.int x2), some (.ref 96), none], [.int (0 : Int32)], 2, 12)) (M' := (I, J3, sm_rf 21 d)) rfl trivial ?_
      cases h
      exact sm_W.ret (sm_C_mono D) rfl hQ
    · refine sm_W.cal (sm_C_mono D) (y := 129) (as := [.ref 0, .int x1, .int x2]) (fr' := (6, [some (.ref 0), some (.int x1), some (.int x2), some (.ref 96), none], [.int (0 : Int32), .ref 96], 2, 12)) rfl (T_VM_cast (by omega) (by decide) hc (fun _ e => by cases e) (fun _ e => ?_))
      cases e
      rcases sd_if_go h with ⟨he, h⟩ | ⟨he, h⟩
      · subst he
        show sm_W sm_sh X (sm_C sm_sh X sm_P D) me_290 Q (10, [some (.ref 0), some (.int x1), some (.int x2), some (.ref 96), none], [], 2, 12) (I, J, sm_rf 21 d)
        refine sm_W.run (sm_C_mono D) 1 (G := True) (fr' := (11, [some (.ref 0), some (.int x1), some (.int x2), some (.ref 96), none], [.int (1 : Int32)], 2, 12)) (M' := (I, J, sm_rf 21 d)) rfl trivial ?_
        cases h
        exact sm_W.ret (sm_C_mono D) rfl hQ
      cases h
  · skip
    refine sm_W.run (sm_C_mono D) 5 (G := True) (fr' := (5, [some (.ref 0), some (.int x1), some (.int x2), some (.ref 96), none], [.int x2, .int x1, .ref 0, .int (0 : Int32), .ref 96], 0, 0)) (M' := (I, J, sm_rf 41 d)) rfl trivial ?_
    rcases sd_t1_go h with ⟨r1, hc, h⟩ | ⟨r1, hc, h⟩
    · refine sm_W.cal (sm_C_mono D) (y := 129) (as := [.ref 0, .int x1, .int x2]) (fr' := (6, [some (.ref 0), some (.int x1), some (.int x2), some (.ref 96), none], [.int (0 : Int32), .ref 96], 2, 12)) rfl (T_VM_cast (by omega) (by decide) hc (fun _ e => ?_) (fun _ e => by cases e))
      cases e
      show sm_W sm_sh X (sm_C sm_sh X sm_P D) me_290 Q (6, [some (.ref 0), some (.int x1), some (.int x2), some (.ref 96), none], [.int r1, .int (0 : Int32), .ref 96], 2, 12) (I, J, sm_rf 41 d)
      obtain ⟨g2, h⟩ := sd_gu_go h
      refine sm_W.runL (sm_C_mono D) 2 (G := sm_in (0 : Int32) 1 = true ∧ True) (e := (sd_upJ J 96 0 (Int32.toInt64 r1))) (fr' := fun _ => (8, [some (.ref 0), some (.int x1), some (.int x2), some (.ref 96), none], [], 2, 12)) (M' := fun J3 => (I, J3, sm_rf 41 d)) rfl h ⟨g2, trivial⟩ (fun J3 h => ?_)
      refine sm_W.run (sm_C_mono D) 2 (G := True) (fr' := (13, [some (.ref 0), some (.int x1), some (.int x2), some (.ref 96), none], [.int (0 : Int32)], 2, 12)) (M' := (I, J3, sm_rf 41 d)) rfl trivial ?_
      cases h
      exact sm_W.ret (sm_C_mono D) rfl hQ
    · refine sm_W.cal (sm_C_mono D) (y := 129) (as := [.ref 0, .int x1, .int x2]) (fr' := (6, [some (.ref 0), some (.int x1), some (.int x2), some (.ref 96), none], [.int (0 : Int32), .ref 96], 2, 12)) rfl (T_VM_cast (by omega) (by decide) hc (fun _ e => by cases e) (fun _ e => ?_))
      cases e
      rcases sd_if_go h with ⟨he, h⟩ | ⟨he, h⟩
      · subst he
        show sm_W sm_sh X (sm_C sm_sh X sm_P D) me_290 Q (10, [some (.ref 0), some (.int x1), some (.int x2), some (.ref 96), none], [], 2, 12) (I, J, sm_rf 41 d)
        refine sm_W.run (sm_C_mono D) 1 (G := True) (fr' := (11, [some (.ref 0), some (.int x1), some (.int x2), some (.ref 96), none], [.int (1 : Int32)], 2, 12)) (M' := (I, J, sm_rf 41 d)) rfl trivial ?_
        cases h
        exact sm_W.ret (sm_C_mono D) rfl hQ
      cases h
theorem T_Law_cast {X : Nat × (Nat → Int32)} {t d D : Nat} {Q : sm_Q} {I : sm_MI} {J : sm_MJ} {x1 : Int32} {x2 : Int32} {rz : Int32} {Jz : sm_MJ}
    (hD : 4 ≤ D) (ht : t = 21 ∨ t = 41) (h : F_Law_cast t x1 x2 I J = some (rz, Jz)) (hQ : Q (.inl (some (.int rz))) (I, Jz, sm_rf t d)) : sm_C sm_sh X sm_P D 290 [.ref 0, .int x1, .int x2, .ref 96] (I, J, sm_rf t d) Q := by
  cases D with
  | zero => omega
  | succ D => exact sm_C.of (me := me_290) (L := [some (.ref 0), some (.int x1), some (.int x2), some (.ref 96), none]) rfl rfl rfl (sm_W.forget (L' := [some (.ref 0), some (.int x1), some (.int x2), some (.ref 96), none]) ⟨rfl, ⟨rfl, ⟨rfl, ⟨rfl, trivial⟩⟩⟩⟩ (G_Law_cast (by omega) ht h hQ))
-- 291 Law_transposed
noncomputable def F_Law_transposed (t : Nat) (x1 : Int32) (I : sm_MI) (J : sm_MJ) : Option (Int32 × sm_MJ) :=
  sd_t1 (F_VM_transposed t x1 I) (fun r1 =>
    sd_gu (sm_in (0 : Int32) 1 = true) <|
    sd_lt (sd_upJ J 96 0 (Int32.toInt64 r1)) fun J3 =>
    some ((0 : Int32), J3))
    (fun r1 => if r1 = 1 then
    some ((1 : Int32), J)
  else none)
theorem G_Law_transposed {X : Nat × (Nat → Int32)} {t d D : Nat} {Q : sm_Q} {I : sm_MI} {J : sm_MJ} {x1 : Int32} {rz : Int32} {Jz : sm_MJ}
    (hD : 3 ≤ D) (ht : t = 21 ∨ t = 41) (h : F_Law_transposed t x1 I J = some (rz, Jz)) (hQ : Q (.inl (some (.int rz))) (I, Jz, sm_rf t d))  : sm_W sm_sh X (sm_C sm_sh X sm_P D) me_291 Q (0, [some (.ref 0), some (.int x1), some (.ref 96), none], [], 0, 0) (I, J, sm_rf t d) := by
  unfold F_Law_transposed at h
  rcases ht with rfl | rfl
  · skip
    refine sm_W.run (sm_C_mono D) 4 (G := True) (fr' := (4, [some (.ref 0), some (.int x1), some (.ref 96), none], [.int x1, .ref 0, .int (0 : Int32), .ref 96], 0, 0)) (M' := (I, J, sm_rf 21 d)) rfl trivial ?_
    rcases sd_t1_go h with ⟨r1, hc, h⟩ | ⟨r1, hc, h⟩
    · refine sm_W.cal (sm_C_mono D) (y := 131) (as := [.ref 0, .int x1]) (fr' := (5, [some (.ref 0), some (.int x1), some (.ref 96), none], [.int (0 : Int32), .ref 96], 1, 6)) rfl (T_VM_transposed (by omega) (by decide) hc (fun _ e => ?_) (fun _ e => by cases e))
      cases e
      show sm_W sm_sh X (sm_C sm_sh X sm_P D) me_291 Q (5, [some (.ref 0), some (.int x1), some (.ref 96), none], [.int r1, .int (0 : Int32), .ref 96], 1, 6) (I, J, sm_rf 21 d)
      obtain ⟨g2, h⟩ := sd_gu_go h
      refine sm_W.runL (sm_C_mono D) 2 (G := sm_in (0 : Int32) 1 = true ∧ True) (e := (sd_upJ J 96 0 (Int32.toInt64 r1))) (fr' := fun _ => (7, [some (.ref 0), some (.int x1), some (.ref 96), none], [], 1, 6)) (M' := fun J3 => (I, J3, sm_rf 21 d)) rfl h ⟨g2, trivial⟩ (fun J3 h => ?_)
      refine sm_W.run (sm_C_mono D) 2 (G := True) (fr' := (12, [some (.ref 0), some (.int x1), some (.ref 96), none], [.int (0 : Int32)], 1, 6)) (M' := (I, J3, sm_rf 21 d)) rfl trivial ?_
      cases h
      exact sm_W.ret (sm_C_mono D) rfl hQ
    · refine sm_W.cal (sm_C_mono D) (y := 131) (as := [.ref 0, .int x1]) (fr' := (5, [some (.ref 0), some (.int x1), some (.ref 96), none], [.int (0 : Int32), .ref 96], 1, 6)) rfl (T_VM_transposed (by omega) (by decide) hc (fun _ e => by cases e) (fun _ e => ?_))
      cases e
      rcases sd_if_go h with ⟨he, h⟩ | ⟨he, h⟩
      · subst he
        show sm_W sm_sh X (sm_C sm_sh X sm_P D) me_291 Q (9, [some (.ref 0), some (.int x1), some (.ref 96), none], [], 1, 6) (I, J, sm_rf 21 d)
        refine sm_W.run (sm_C_mono D) 1 (G := True) (fr' := (10, [some (.ref 0), some (.int x1), some (.ref 96), none], [.int (1 : Int32)], 1, 6)) (M' := (I, J, sm_rf 21 d)) rfl trivial ?_
        cases h
        exact sm_W.ret (sm_C_mono D) rfl hQ
      cases h
  · skip
    refine sm_W.run (sm_C_mono D) 4 (G := True) (fr' := (4, [some (.ref 0), some (.int x1), some (.ref 96), none], [.int x1, .ref 0, .int (0 : Int32), .ref 96], 0, 0)) (M' := (I, J, sm_rf 41 d)) rfl trivial ?_
    rcases sd_t1_go h with ⟨r1, hc, h⟩ | ⟨r1, hc, h⟩
    · refine sm_W.cal (sm_C_mono D) (y := 131) (as := [.ref 0, .int x1]) (fr' := (5, [some (.ref 0), some (.int x1), some (.ref 96), none], [.int (0 : Int32), .ref 96], 1, 6)) rfl (T_VM_transposed (by omega) (by decide) hc (fun _ e => ?_) (fun _ e => by cases e))
      cases e
      show sm_W sm_sh X (sm_C sm_sh X sm_P D) me_291 Q (5, [some (.ref 0), some (.int x1), some (.ref 96), none], [.int r1, .int (0 : Int32), .ref 96], 1, 6) (I, J, sm_rf 41 d)
      obtain ⟨g2, h⟩ := sd_gu_go h
      refine sm_W.runL (sm_C_mono D) 2 (G := sm_in (0 : Int32) 1 = true ∧ True) (e := (sd_upJ J 96 0 (Int32.toInt64 r1))) (fr' := fun _ => (7, [some (.ref 0), some (.int x1), some (.ref 96), none], [], 1, 6)) (M' := fun J3 => (I, J3, sm_rf 41 d)) rfl h ⟨g2, trivial⟩ (fun J3 h => ?_)
      refine sm_W.run (sm_C_mono D) 2 (G := True) (fr' := (12, [some (.ref 0), some (.int x1), some (.ref 96), none], [.int (0 : Int32)], 1, 6)) (M' := (I, J3, sm_rf 41 d)) rfl trivial ?_
      cases h
      exact sm_W.ret (sm_C_mono D) rfl hQ
    · refine sm_W.cal (sm_C_mono D) (y := 131) (as := [.ref 0, .int x1]) (fr' := (5, [some (.ref 0), some (.int x1), some (.ref 96), none], [.int (0 : Int32), .ref 96], 1, 6)) rfl (T_VM_transposed (by omega) (by decide) hc (fun _ e => by cases e) (fun _ e => ?_))
      cases e
      rcases sd_if_go h with ⟨he, h⟩ | ⟨he, h⟩
      · subst he
        show sm_W sm_sh X (sm_C sm_sh X sm_P D) me_291 Q (9, [some (.ref 0), some (.int x1), some (.ref 96), none], [], 1, 6) (I, J, sm_rf 41 d)
        refine sm_W.run (sm_C_mono D) 1 (G := True) (fr' := (10, [some (.ref 0), some (.int x1), some (.ref 96), none], [.int (1 : Int32)], 1, 6)) (M' := (I, J, sm_rf 41 d)) rfl trivial ?_
        cases h
        exact sm_W.ret (sm_C_mono D) rfl hQ
      cases h
theorem T_Law_transposed {X : Nat × (Nat → Int32)} {t d D : Nat} {Q : sm_Q} {I : sm_MI} {J : sm_MJ} {x1 : Int32} {rz : Int32} {Jz : sm_MJ}
    (hD : 4 ≤ D) (ht : t = 21 ∨ t = 41) (h : F_Law_transposed t x1 I J = some (rz, Jz)) (hQ : Q (.inl (some (.int rz))) (I, Jz, sm_rf t d)) : sm_C sm_sh X sm_P D 291 [.ref 0, .int x1, .ref 96] (I, J, sm_rf t d) Q := by
  cases D with
  | zero => omega
  | succ D => exact sm_C.of (me := me_291) (L := [some (.ref 0), some (.int x1), some (.ref 96), none]) rfl rfl rfl (sm_W.forget (L' := [some (.ref 0), some (.int x1), some (.ref 96), none]) ⟨rfl, ⟨rfl, ⟨rfl, trivial⟩⟩⟩ (G_Law_transposed (by omega) ht h hQ))
-- 292 Law_standIns
noncomputable def F_Law_standIns (t : Nat) (x1 : Int32) (I : sm_MI) (J : sm_MJ) : Option (Int32 × sm_MJ) :=
  sd_t1 (F_VM_standIns t x1 I) (fun r1 =>
    sd_gu (sm_in (0 : Int32) 1 = true) <|
    sd_lt (sd_upJ J 96 0 (Int32.toInt64 r1)) fun J3 =>
    some ((0 : Int32), J3))
    (fun r1 => if r1 = 1 then
    some ((1 : Int32), J)
  else none)
theorem G_Law_standIns {X : Nat × (Nat → Int32)} {t d D : Nat} {Q : sm_Q} {I : sm_MI} {J : sm_MJ} {x1 : Int32} {rz : Int32} {Jz : sm_MJ}
    (hD : 2 ≤ D) (ht : t = 21 ∨ t = 41) (h : F_Law_standIns t x1 I J = some (rz, Jz)) (hQ : Q (.inl (some (.int rz))) (I, Jz, sm_rf t d))  : sm_W sm_sh X (sm_C sm_sh X sm_P D) me_292 Q (0, [some (.ref 0), some (.int x1), some (.ref 96), none], [], 0, 0) (I, J, sm_rf t d) := by
  unfold F_Law_standIns at h
  rcases ht with rfl | rfl
  · skip
    refine sm_W.run (sm_C_mono D) 4 (G := True) (fr' := (4, [some (.ref 0), some (.int x1), some (.ref 96), none], [.int x1, .ref 0, .int (0 : Int32), .ref 96], 0, 0)) (M' := (I, J, sm_rf 21 d)) rfl trivial ?_
    rcases sd_t1_go h with ⟨r1, hc, h⟩ | ⟨r1, hc, h⟩
    · refine sm_W.cal (sm_C_mono D) (y := 110) (as := [.ref 0, .int x1]) (fr' := (5, [some (.ref 0), some (.int x1), some (.ref 96), none], [.int (0 : Int32), .ref 96], 1, 6)) rfl (T_VM_standIns (by omega) (by decide) hc (fun _ e => ?_) (fun _ e => by cases e))
      cases e
      show sm_W sm_sh X (sm_C sm_sh X sm_P D) me_292 Q (5, [some (.ref 0), some (.int x1), some (.ref 96), none], [.int r1, .int (0 : Int32), .ref 96], 1, 6) (I, J, sm_rf 21 d)
      obtain ⟨g2, h⟩ := sd_gu_go h
      refine sm_W.runL (sm_C_mono D) 2 (G := sm_in (0 : Int32) 1 = true ∧ True) (e := (sd_upJ J 96 0 (Int32.toInt64 r1))) (fr' := fun _ => (7, [some (.ref 0), some (.int x1), some (.ref 96), none], [], 1, 6)) (M' := fun J3 => (I, J3, sm_rf 21 d)) rfl h ⟨g2, trivial⟩ (fun J3 h => ?_)
      refine sm_W.run (sm_C_mono D) 2 (G := True) (fr' := (12, [some (.ref 0), some (.int x1), some (.ref 96), none], [.int (0 : Int32)], 1, 6)) (M' := (I, J3, sm_rf 21 d)) rfl trivial ?_
      cases h
      exact sm_W.ret (sm_C_mono D) rfl hQ
    · refine sm_W.cal (sm_C_mono D) (y := 110) (as := [.ref 0, .int x1]) (fr' := (5, [some (.ref 0), some (.int x1), some (.ref 96), none], [.int (0 : Int32), .ref 96], 1, 6)) rfl (T_VM_standIns (by omega) (by decide) hc (fun _ e => by cases e) (fun _ e => ?_))
      cases e
      rcases sd_if_go h with ⟨he, h⟩ | ⟨he, h⟩
      · subst he
        show sm_W sm_sh X (sm_C sm_sh X sm_P D) me_292 Q (9, [some (.ref 0), some (.int x1), some (.ref 96), none], [], 1, 6) (I, J, sm_rf 21 d)
        refine sm_W.run (sm_C_mono D) 1 (G := True) (fr' := (10, [some (.ref 0), some (.int x1), some (.ref 96), none], [.int (1 : Int32)], 1, 6)) (M' := (I, J, sm_rf 21 d)) rfl trivial ?_
        cases h
        exact sm_W.ret (sm_C_mono D) rfl hQ
      cases h
  · skip
    refine sm_W.run (sm_C_mono D) 4 (G := True) (fr' := (4, [some (.ref 0), some (.int x1), some (.ref 96), none], [.int x1, .ref 0, .int (0 : Int32), .ref 96], 0, 0)) (M' := (I, J, sm_rf 41 d)) rfl trivial ?_
    rcases sd_t1_go h with ⟨r1, hc, h⟩ | ⟨r1, hc, h⟩
    · refine sm_W.cal (sm_C_mono D) (y := 110) (as := [.ref 0, .int x1]) (fr' := (5, [some (.ref 0), some (.int x1), some (.ref 96), none], [.int (0 : Int32), .ref 96], 1, 6)) rfl (T_VM_standIns (by omega) (by decide) hc (fun _ e => ?_) (fun _ e => by cases e))
      cases e
      show sm_W sm_sh X (sm_C sm_sh X sm_P D) me_292 Q (5, [some (.ref 0), some (.int x1), some (.ref 96), none], [.int r1, .int (0 : Int32), .ref 96], 1, 6) (I, J, sm_rf 41 d)
      obtain ⟨g2, h⟩ := sd_gu_go h
      refine sm_W.runL (sm_C_mono D) 2 (G := sm_in (0 : Int32) 1 = true ∧ True) (e := (sd_upJ J 96 0 (Int32.toInt64 r1))) (fr' := fun _ => (7, [some (.ref 0), some (.int x1), some (.ref 96), none], [], 1, 6)) (M' := fun J3 => (I, J3, sm_rf 41 d)) rfl h ⟨g2, trivial⟩ (fun J3 h => ?_)
      refine sm_W.run (sm_C_mono D) 2 (G := True) (fr' := (12, [some (.ref 0), some (.int x1), some (.ref 96), none], [.int (0 : Int32)], 1, 6)) (M' := (I, J3, sm_rf 41 d)) rfl trivial ?_
      cases h
      exact sm_W.ret (sm_C_mono D) rfl hQ
    · refine sm_W.cal (sm_C_mono D) (y := 110) (as := [.ref 0, .int x1]) (fr' := (5, [some (.ref 0), some (.int x1), some (.ref 96), none], [.int (0 : Int32), .ref 96], 1, 6)) rfl (T_VM_standIns (by omega) (by decide) hc (fun _ e => by cases e) (fun _ e => ?_))
      cases e
      rcases sd_if_go h with ⟨he, h⟩ | ⟨he, h⟩
      · subst he
        show sm_W sm_sh X (sm_C sm_sh X sm_P D) me_292 Q (9, [some (.ref 0), some (.int x1), some (.ref 96), none], [], 1, 6) (I, J, sm_rf 41 d)
        refine sm_W.run (sm_C_mono D) 1 (G := True) (fr' := (10, [some (.ref 0), some (.int x1), some (.ref 96), none], [.int (1 : Int32)], 1, 6)) (M' := (I, J, sm_rf 41 d)) rfl trivial ?_
        cases h
        exact sm_W.ret (sm_C_mono D) rfl hQ
      cases h
theorem T_Law_standIns {X : Nat × (Nat → Int32)} {t d D : Nat} {Q : sm_Q} {I : sm_MI} {J : sm_MJ} {x1 : Int32} {rz : Int32} {Jz : sm_MJ}
    (hD : 3 ≤ D) (ht : t = 21 ∨ t = 41) (h : F_Law_standIns t x1 I J = some (rz, Jz)) (hQ : Q (.inl (some (.int rz))) (I, Jz, sm_rf t d)) : sm_C sm_sh X sm_P D 292 [.ref 0, .int x1, .ref 96] (I, J, sm_rf t d) Q := by
  cases D with
  | zero => omega
  | succ D => exact sm_C.of (me := me_292) (L := [some (.ref 0), some (.int x1), some (.ref 96), none]) rfl rfl rfl (sm_W.forget (L' := [some (.ref 0), some (.int x1), some (.ref 96), none]) ⟨rfl, ⟨rfl, ⟨rfl, trivial⟩⟩⟩ (G_Law_standIns (by omega) ht h hQ))
-- 293 Law_falls
noncomputable def F_Law_falls (t : Nat) (x1 : Int32) (I : sm_MI) (J : sm_MJ) : Option (Int32 × sm_MI × sm_MJ) :=
  sd_t2 (F_VM_falls t x1 I) (fun r1 I2 =>
    sd_gu (sm_in (0 : Int32) 1 = true) <|
    sd_lt (sd_upJ J 96 0 (Int32.toInt64 r1)) fun J4 =>
    some ((0 : Int32), I2, J4))
    (fun r1 I2 => if r1 = 0 then
    some ((1 : Int32), I2, J)
  else none)
theorem G_Law_falls {X : Nat × (Nat → Int32)} {t d D : Nat} {Q : sm_Q} {I : sm_MI} {J : sm_MJ} {x1 : Int32} {rz : Int32} {Iz : sm_MI} {Jz : sm_MJ}
    (hD : 7 ≤ D) (ht : t = 21 ∨ t = 41) (h : F_Law_falls t x1 I J = some (rz, Iz, Jz)) (hQ : Q (.inl (some (.int rz))) (Iz, Jz, sm_rf t d))  : sm_W sm_sh X (sm_C sm_sh X sm_P D) me_293 Q (0, [some (.ref 0), some (.int x1), some (.ref 96), none], [], 0, 0) (I, J, sm_rf t d) := by
  unfold F_Law_falls at h
  rcases ht with rfl | rfl
  · skip
    refine sm_W.run (sm_C_mono D) 4 (G := True) (fr' := (4, [some (.ref 0), some (.int x1), some (.ref 96), none], [.int x1, .ref 0, .int (0 : Int32), .ref 96], 0, 0)) (M' := (I, J, sm_rf 21 d)) rfl trivial ?_
    rcases sd_t2_go h with ⟨r1, I2, hc, h⟩ | ⟨r1, I2, hc, h⟩
    · refine sm_W.cal (sm_C_mono D) (y := 145) (as := [.ref 0, .int x1]) (fr' := (5, [some (.ref 0), some (.int x1), some (.ref 96), none], [.int (0 : Int32), .ref 96], 1, 6)) rfl (T_VM_falls (by omega) (by decide) hc (fun _ e => ?_) (fun _ e => by cases e))
      cases e
      show sm_W sm_sh X (sm_C sm_sh X sm_P D) me_293 Q (5, [some (.ref 0), some (.int x1), some (.ref 96), none], [.int r1, .int (0 : Int32), .ref 96], 1, 6) (I2, J, sm_rf 21 d)
      obtain ⟨g3, h⟩ := sd_gu_go h
      refine sm_W.runL (sm_C_mono D) 2 (G := sm_in (0 : Int32) 1 = true ∧ True) (e := (sd_upJ J 96 0 (Int32.toInt64 r1))) (fr' := fun _ => (7, [some (.ref 0), some (.int x1), some (.ref 96), none], [], 1, 6)) (M' := fun J4 => (I2, J4, sm_rf 21 d)) rfl h ⟨g3, trivial⟩ (fun J4 h => ?_)
      refine sm_W.run (sm_C_mono D) 2 (G := True) (fr' := (12, [some (.ref 0), some (.int x1), some (.ref 96), none], [.int (0 : Int32)], 1, 6)) (M' := (I2, J4, sm_rf 21 d)) rfl trivial ?_
      cases h
      exact sm_W.ret (sm_C_mono D) rfl hQ
    · refine sm_W.cal (sm_C_mono D) (y := 145) (as := [.ref 0, .int x1]) (fr' := (5, [some (.ref 0), some (.int x1), some (.ref 96), none], [.int (0 : Int32), .ref 96], 1, 6)) rfl (T_VM_falls (by omega) (by decide) hc (fun _ e => by cases e) (fun _ e => ?_))
      cases e
      rcases sd_if_go h with ⟨he, h⟩ | ⟨he, h⟩
      · subst he
        show sm_W sm_sh X (sm_C sm_sh X sm_P D) me_293 Q (9, [some (.ref 0), some (.int x1), some (.ref 96), none], [], 1, 6) (I2, J, sm_rf 21 d)
        refine sm_W.run (sm_C_mono D) 1 (G := True) (fr' := (10, [some (.ref 0), some (.int x1), some (.ref 96), none], [.int (1 : Int32)], 1, 6)) (M' := (I2, J, sm_rf 21 d)) rfl trivial ?_
        cases h
        exact sm_W.ret (sm_C_mono D) rfl hQ
      cases h
  · skip
    refine sm_W.run (sm_C_mono D) 4 (G := True) (fr' := (4, [some (.ref 0), some (.int x1), some (.ref 96), none], [.int x1, .ref 0, .int (0 : Int32), .ref 96], 0, 0)) (M' := (I, J, sm_rf 41 d)) rfl trivial ?_
    rcases sd_t2_go h with ⟨r1, I2, hc, h⟩ | ⟨r1, I2, hc, h⟩
    · refine sm_W.cal (sm_C_mono D) (y := 145) (as := [.ref 0, .int x1]) (fr' := (5, [some (.ref 0), some (.int x1), some (.ref 96), none], [.int (0 : Int32), .ref 96], 1, 6)) rfl (T_VM_falls (by omega) (by decide) hc (fun _ e => ?_) (fun _ e => by cases e))
      cases e
      show sm_W sm_sh X (sm_C sm_sh X sm_P D) me_293 Q (5, [some (.ref 0), some (.int x1), some (.ref 96), none], [.int r1, .int (0 : Int32), .ref 96], 1, 6) (I2, J, sm_rf 41 d)
      obtain ⟨g3, h⟩ := sd_gu_go h
      refine sm_W.runL (sm_C_mono D) 2 (G := sm_in (0 : Int32) 1 = true ∧ True) (e := (sd_upJ J 96 0 (Int32.toInt64 r1))) (fr' := fun _ => (7, [some (.ref 0), some (.int x1), some (.ref 96), none], [], 1, 6)) (M' := fun J4 => (I2, J4, sm_rf 41 d)) rfl h ⟨g3, trivial⟩ (fun J4 h => ?_)
      refine sm_W.run (sm_C_mono D) 2 (G := True) (fr' := (12, [some (.ref 0), some (.int x1), some (.ref 96), none], [.int (0 : Int32)], 1, 6)) (M' := (I2, J4, sm_rf 41 d)) rfl trivial ?_
      cases h
      exact sm_W.ret (sm_C_mono D) rfl hQ
    · refine sm_W.cal (sm_C_mono D) (y := 145) (as := [.ref 0, .int x1]) (fr' := (5, [some (.ref 0), some (.int x1), some (.ref 96), none], [.int (0 : Int32), .ref 96], 1, 6)) rfl (T_VM_falls (by omega) (by decide) hc (fun _ e => by cases e) (fun _ e => ?_))
      cases e
      rcases sd_if_go h with ⟨he, h⟩ | ⟨he, h⟩
      · subst he
        show sm_W sm_sh X (sm_C sm_sh X sm_P D) me_293 Q (9, [some (.ref 0), some (.int x1), some (.ref 96), none], [], 1, 6) (I2, J, sm_rf 41 d)
        refine sm_W.run (sm_C_mono D) 1 (G := True) (fr' := (10, [some (.ref 0), some (.int x1), some (.ref 96), none], [.int (1 : Int32)], 1, 6)) (M' := (I2, J, sm_rf 41 d)) rfl trivial ?_
        cases h
        exact sm_W.ret (sm_C_mono D) rfl hQ
      cases h
theorem T_Law_falls {X : Nat × (Nat → Int32)} {t d D : Nat} {Q : sm_Q} {I : sm_MI} {J : sm_MJ} {x1 : Int32} {rz : Int32} {Iz : sm_MI} {Jz : sm_MJ}
    (hD : 8 ≤ D) (ht : t = 21 ∨ t = 41) (h : F_Law_falls t x1 I J = some (rz, Iz, Jz)) (hQ : Q (.inl (some (.int rz))) (Iz, Jz, sm_rf t d)) : sm_C sm_sh X sm_P D 293 [.ref 0, .int x1, .ref 96] (I, J, sm_rf t d) Q := by
  cases D with
  | zero => omega
  | succ D => exact sm_C.of (me := me_293) (L := [some (.ref 0), some (.int x1), some (.ref 96), none]) rfl rfl rfl (sm_W.forget (L' := [some (.ref 0), some (.int x1), some (.ref 96), none]) ⟨rfl, ⟨rfl, ⟨rfl, trivial⟩⟩⟩ (G_Law_falls (by omega) ht h hQ))
-- 294 Law_voices
noncomputable def F_Law_voices (t : Nat) (x1 : Int32) (x2 : Int32) (I : sm_MI) (J : sm_MJ) : Option (Int32 × sm_MJ) :=
  sd_t1 (F_VM_voices t x1 x2 I) (fun r1 =>
    sd_gu (sm_in (0 : Int32) 1 = true) <|
    sd_lt (sd_upJ J 96 0 (Int32.toInt64 r1)) fun J3 =>
    some ((0 : Int32), J3))
    (fun r1 => if r1 = 1 then
    some ((1 : Int32), J)
  else none)
theorem G_Law_voices {X : Nat × (Nat → Int32)} {t d D : Nat} {Q : sm_Q} {I : sm_MI} {J : sm_MJ} {x1 : Int32} {x2 : Int32} {rz : Int32} {Jz : sm_MJ}
    (hD : 2 ≤ D) (ht : t = 21 ∨ t = 41) (h : F_Law_voices t x1 x2 I J = some (rz, Jz)) (hQ : Q (.inl (some (.int rz))) (I, Jz, sm_rf t d))  : sm_W sm_sh X (sm_C sm_sh X sm_P D) me_294 Q (0, [some (.ref 0), some (.int x1), some (.int x2), some (.ref 96), none], [], 0, 0) (I, J, sm_rf t d) := by
  unfold F_Law_voices at h
  rcases ht with rfl | rfl
  · skip
    refine sm_W.run (sm_C_mono D) 5 (G := True) (fr' := (5, [some (.ref 0), some (.int x1), some (.int x2), some (.ref 96), none], [.int x2, .int x1, .ref 0, .int (0 : Int32), .ref 96], 0, 0)) (M' := (I, J, sm_rf 21 d)) rfl trivial ?_
    rcases sd_t1_go h with ⟨r1, hc, h⟩ | ⟨r1, hc, h⟩
    · refine sm_W.cal (sm_C_mono D) (y := 111) (as := [.ref 0, .int x1, .int x2]) (fr' := (6, [some (.ref 0), some (.int x1), some (.int x2), some (.ref 96), none], [.int (0 : Int32), .ref 96], 2, 12)) rfl (T_VM_voices (by omega) (by decide) hc (fun _ e => ?_) (fun _ e => by cases e))
      cases e
      show sm_W sm_sh X (sm_C sm_sh X sm_P D) me_294 Q (6, [some (.ref 0), some (.int x1), some (.int x2), some (.ref 96), none], [.int r1, .int (0 : Int32), .ref 96], 2, 12) (I, J, sm_rf 21 d)
      obtain ⟨g2, h⟩ := sd_gu_go h
      refine sm_W.runL (sm_C_mono D) 2 (G := sm_in (0 : Int32) 1 = true ∧ True) (e := (sd_upJ J 96 0 (Int32.toInt64 r1))) (fr' := fun _ => (8, [some (.ref 0), some (.int x1), some (.int x2), some (.ref 96), none], [], 2, 12)) (M' := fun J3 => (I, J3, sm_rf 21 d)) rfl h ⟨g2, trivial⟩ (fun J3 h => ?_)
      refine sm_W.run (sm_C_mono D) 2 (G := True) (fr' := (13, [some (.ref 0), some (.int x1), some (.int x2), some (.ref 96), none], [.int (0 : Int32)], 2, 12)) (M' := (I, J3, sm_rf 21 d)) rfl trivial ?_
      cases h
      exact sm_W.ret (sm_C_mono D) rfl hQ
    · refine sm_W.cal (sm_C_mono D) (y := 111) (as := [.ref 0, .int x1, .int x2]) (fr' := (6, [some (.ref 0), some (.int x1), some (.int x2), some (.ref 96), none], [.int (0 : Int32), .ref 96], 2, 12)) rfl (T_VM_voices (by omega) (by decide) hc (fun _ e => by cases e) (fun _ e => ?_))
      cases e
      rcases sd_if_go h with ⟨he, h⟩ | ⟨he, h⟩
      · subst he
        show sm_W sm_sh X (sm_C sm_sh X sm_P D) me_294 Q (10, [some (.ref 0), some (.int x1), some (.int x2), some (.ref 96), none], [], 2, 12) (I, J, sm_rf 21 d)
        refine sm_W.run (sm_C_mono D) 1 (G := True) (fr' := (11, [some (.ref 0), some (.int x1), some (.int x2), some (.ref 96), none], [.int (1 : Int32)], 2, 12)) (M' := (I, J, sm_rf 21 d)) rfl trivial ?_
        cases h
        exact sm_W.ret (sm_C_mono D) rfl hQ
      cases h
  · skip
    refine sm_W.run (sm_C_mono D) 5 (G := True) (fr' := (5, [some (.ref 0), some (.int x1), some (.int x2), some (.ref 96), none], [.int x2, .int x1, .ref 0, .int (0 : Int32), .ref 96], 0, 0)) (M' := (I, J, sm_rf 41 d)) rfl trivial ?_
    rcases sd_t1_go h with ⟨r1, hc, h⟩ | ⟨r1, hc, h⟩
    · refine sm_W.cal (sm_C_mono D) (y := 111) (as := [.ref 0, .int x1, .int x2]) (fr' := (6, [some (.ref 0), some (.int x1), some (.int x2), some (.ref 96), none], [.int (0 : Int32), .ref 96], 2, 12)) rfl (T_VM_voices (by omega) (by decide) hc (fun _ e => ?_) (fun _ e => by cases e))
      cases e
      show sm_W sm_sh X (sm_C sm_sh X sm_P D) me_294 Q (6, [some (.ref 0), some (.int x1), some (.int x2), some (.ref 96), none], [.int r1, .int (0 : Int32), .ref 96], 2, 12) (I, J, sm_rf 41 d)
      obtain ⟨g2, h⟩ := sd_gu_go h
      refine sm_W.runL (sm_C_mono D) 2 (G := sm_in (0 : Int32) 1 = true ∧ True) (e := (sd_upJ J 96 0 (Int32.toInt64 r1))) (fr' := fun _ => (8, [some (.ref 0), some (.int x1), some (.int x2), some (.ref 96), none], [], 2, 12)) (M' := fun J3 => (I, J3, sm_rf 41 d)) rfl h ⟨g2, trivial⟩ (fun J3 h => ?_)
      refine sm_W.run (sm_C_mono D) 2 (G := True) (fr' := (13, [some (.ref 0), some (.int x1), some (.int x2), some (.ref 96), none], [.int (0 : Int32)], 2, 12)) (M' := (I, J3, sm_rf 41 d)) rfl trivial ?_
      cases h
      exact sm_W.ret (sm_C_mono D) rfl hQ
    · refine sm_W.cal (sm_C_mono D) (y := 111) (as := [.ref 0, .int x1, .int x2]) (fr' := (6, [some (.ref 0), some (.int x1), some (.int x2), some (.ref 96), none], [.int (0 : Int32), .ref 96], 2, 12)) rfl (T_VM_voices (by omega) (by decide) hc (fun _ e => by cases e) (fun _ e => ?_))
      cases e
      rcases sd_if_go h with ⟨he, h⟩ | ⟨he, h⟩
      · subst he
        show sm_W sm_sh X (sm_C sm_sh X sm_P D) me_294 Q (10, [some (.ref 0), some (.int x1), some (.int x2), some (.ref 96), none], [], 2, 12) (I, J, sm_rf 41 d)
        refine sm_W.run (sm_C_mono D) 1 (G := True) (fr' := (11, [some (.ref 0), some (.int x1), some (.int x2), some (.ref 96), none], [.int (1 : Int32)], 2, 12)) (M' := (I, J, sm_rf 41 d)) rfl trivial ?_
        cases h
        exact sm_W.ret (sm_C_mono D) rfl hQ
      cases h
theorem T_Law_voices {X : Nat × (Nat → Int32)} {t d D : Nat} {Q : sm_Q} {I : sm_MI} {J : sm_MJ} {x1 : Int32} {x2 : Int32} {rz : Int32} {Jz : sm_MJ}
    (hD : 3 ≤ D) (ht : t = 21 ∨ t = 41) (h : F_Law_voices t x1 x2 I J = some (rz, Jz)) (hQ : Q (.inl (some (.int rz))) (I, Jz, sm_rf t d)) : sm_C sm_sh X sm_P D 294 [.ref 0, .int x1, .int x2, .ref 96] (I, J, sm_rf t d) Q := by
  cases D with
  | zero => omega
  | succ D => exact sm_C.of (me := me_294) (L := [some (.ref 0), some (.int x1), some (.int x2), some (.ref 96), none]) rfl rfl rfl (sm_W.forget (L' := [some (.ref 0), some (.int x1), some (.int x2), some (.ref 96), none]) ⟨rfl, ⟨rfl, ⟨rfl, ⟨rfl, trivial⟩⟩⟩⟩ (G_Law_voices (by omega) ht h hQ))
-- 295 Law_lacking
noncomputable def F_Law_lacking (t : Nat) (x1 : Int32) (x2 : Int32) (I : sm_MI) (J : sm_MJ) : Option (Int32 × sm_MJ) :=
  sd_t1 (F_VM_lacking t x1 x2 I) (fun r1 =>
    sd_gu (sm_in (0 : Int32) 1 = true) <|
    sd_lt (sd_upJ J 96 0 (Int32.toInt64 r1)) fun J3 =>
    some ((0 : Int32), J3))
    (fun r1 => if r1 = 1 then
    some ((1 : Int32), J)
  else none)
theorem G_Law_lacking {X : Nat × (Nat → Int32)} {t d D : Nat} {Q : sm_Q} {I : sm_MI} {J : sm_MJ} {x1 : Int32} {x2 : Int32} {rz : Int32} {Jz : sm_MJ}
    (hD : 3 ≤ D) (ht : t = 21 ∨ t = 41) (h : F_Law_lacking t x1 x2 I J = some (rz, Jz)) (hQ : Q (.inl (some (.int rz))) (I, Jz, sm_rf t d))  : sm_W sm_sh X (sm_C sm_sh X sm_P D) me_295 Q (0, [some (.ref 0), some (.int x1), some (.int x2), some (.ref 96), none], [], 0, 0) (I, J, sm_rf t d) := by
  unfold F_Law_lacking at h
  rcases ht with rfl | rfl
  · skip
    refine sm_W.run (sm_C_mono D) 5 (G := True) (fr' := (5, [some (.ref 0), some (.int x1), some (.int x2), some (.ref 96), none], [.int x2, .int x1, .ref 0, .int (0 : Int32), .ref 96], 0, 0)) (M' := (I, J, sm_rf 21 d)) rfl trivial ?_
    rcases sd_t1_go h with ⟨r1, hc, h⟩ | ⟨r1, hc, h⟩
    · refine sm_W.cal (sm_C_mono D) (y := 132) (as := [.ref 0, .int x1, .int x2]) (fr' := (6, [some (.ref 0), some (.int x1), some (.int x2), some (.ref 96), none], [.int (0 : Int32), .ref 96], 3, 18)) rfl (T_VM_lacking (by omega) (by decide) hc (fun _ e => ?_) (fun _ e => by cases e))
      cases e
      show sm_W sm_sh X (sm_C sm_sh X sm_P D) me_295 Q (6, [some (.ref 0), some (.int x1), some (.int x2), some (.ref 96), none], [.int r1, .int (0 : Int32), .ref 96], 3, 18) (I, J, sm_rf 21 d)
      obtain ⟨g2, h⟩ := sd_gu_go h
      refine sm_W.runL (sm_C_mono D) 2 (G := sm_in (0 : Int32) 1 = true ∧ True) (e := (sd_upJ J 96 0 (Int32.toInt64 r1))) (fr' := fun _ => (8, [some (.ref 0), some (.int x1), some (.int x2), some (.ref 96), none], [], 3, 18)) (M' := fun J3 => (I, J3, sm_rf 21 d)) rfl h ⟨g2, trivial⟩ (fun J3 h => ?_)
      refine sm_W.run (sm_C_mono D) 2 (G := True) (fr' := (13, [some (.ref 0), some (.int x1), some (.int x2), some (.ref 96), none], [.int (0 : Int32)], 3, 18)) (M' := (I, J3, sm_rf 21 d)) rfl trivial ?_
      cases h
      exact sm_W.ret (sm_C_mono D) rfl hQ
    · refine sm_W.cal (sm_C_mono D) (y := 132) (as := [.ref 0, .int x1, .int x2]) (fr' := (6, [some (.ref 0), some (.int x1), some (.int x2), some (.ref 96), none], [.int (0 : Int32), .ref 96], 3, 18)) rfl (T_VM_lacking (by omega) (by decide) hc (fun _ e => by cases e) (fun _ e => ?_))
      cases e
      rcases sd_if_go h with ⟨he, h⟩ | ⟨he, h⟩
      · subst he
        show sm_W sm_sh X (sm_C sm_sh X sm_P D) me_295 Q (10, [some (.ref 0), some (.int x1), some (.int x2), some (.ref 96), none], [], 3, 18) (I, J, sm_rf 21 d)
        refine sm_W.run (sm_C_mono D) 1 (G := True) (fr' := (11, [some (.ref 0), some (.int x1), some (.int x2), some (.ref 96), none], [.int (1 : Int32)], 3, 18)) (M' := (I, J, sm_rf 21 d)) rfl trivial ?_
        cases h
        exact sm_W.ret (sm_C_mono D) rfl hQ
      cases h
  · skip
    refine sm_W.run (sm_C_mono D) 5 (G := True) (fr' := (5, [some (.ref 0), some (.int x1), some (.int x2), some (.ref 96), none], [.int x2, .int x1, .ref 0, .int (0 : Int32), .ref 96], 0, 0)) (M' := (I, J, sm_rf 41 d)) rfl trivial ?_
    rcases sd_t1_go h with ⟨r1, hc, h⟩ | ⟨r1, hc, h⟩
    · refine sm_W.cal (sm_C_mono D) (y := 132) (as := [.ref 0, .int x1, .int x2]) (fr' := (6, [some (.ref 0), some (.int x1), some (.int x2), some (.ref 96), none], [.int (0 : Int32), .ref 96], 3, 18)) rfl (T_VM_lacking (by omega) (by decide) hc (fun _ e => ?_) (fun _ e => by cases e))
      cases e
      show sm_W sm_sh X (sm_C sm_sh X sm_P D) me_295 Q (6, [some (.ref 0), some (.int x1), some (.int x2), some (.ref 96), none], [.int r1, .int (0 : Int32), .ref 96], 3, 18) (I, J, sm_rf 41 d)
      obtain ⟨g2, h⟩ := sd_gu_go h
      refine sm_W.runL (sm_C_mono D) 2 (G := sm_in (0 : Int32) 1 = true ∧ True) (e := (sd_upJ J 96 0 (Int32.toInt64 r1))) (fr' := fun _ => (8, [some (.ref 0), some (.int x1), some (.int x2), some (.ref 96), none], [], 3, 18)) (M' := fun J3 => (I, J3, sm_rf 41 d)) rfl h ⟨g2, trivial⟩ (fun J3 h => ?_)
      refine sm_W.run (sm_C_mono D) 2 (G := True) (fr' := (13, [some (.ref 0), some (.int x1), some (.int x2), some (.ref 96), none], [.int (0 : Int32)], 3, 18)) (M' := (I, J3, sm_rf 41 d)) rfl trivial ?_
      cases h
      exact sm_W.ret (sm_C_mono D) rfl hQ
    · refine sm_W.cal (sm_C_mono D) (y := 132) (as := [.ref 0, .int x1, .int x2]) (fr' := (6, [some (.ref 0), some (.int x1), some (.int x2), some (.ref 96), none], [.int (0 : Int32), .ref 96], 3, 18)) rfl (T_VM_lacking (by omega) (by decide) hc (fun _ e => by cases e) (fun _ e => ?_))
      cases e
      rcases sd_if_go h with ⟨he, h⟩ | ⟨he, h⟩
      · subst he
        show sm_W sm_sh X (sm_C sm_sh X sm_P D) me_295 Q (10, [some (.ref 0), some (.int x1), some (.int x2), some (.ref 96), none], [], 3, 18) (I, J, sm_rf 41 d)
        refine sm_W.run (sm_C_mono D) 1 (G := True) (fr' := (11, [some (.ref 0), some (.int x1), some (.int x2), some (.ref 96), none], [.int (1 : Int32)], 3, 18)) (M' := (I, J, sm_rf 41 d)) rfl trivial ?_
        cases h
        exact sm_W.ret (sm_C_mono D) rfl hQ
      cases h
theorem T_Law_lacking {X : Nat × (Nat → Int32)} {t d D : Nat} {Q : sm_Q} {I : sm_MI} {J : sm_MJ} {x1 : Int32} {x2 : Int32} {rz : Int32} {Jz : sm_MJ}
    (hD : 4 ≤ D) (ht : t = 21 ∨ t = 41) (h : F_Law_lacking t x1 x2 I J = some (rz, Jz)) (hQ : Q (.inl (some (.int rz))) (I, Jz, sm_rf t d)) : sm_C sm_sh X sm_P D 295 [.ref 0, .int x1, .int x2, .ref 96] (I, J, sm_rf t d) Q := by
  cases D with
  | zero => omega
  | succ D => exact sm_C.of (me := me_295) (L := [some (.ref 0), some (.int x1), some (.int x2), some (.ref 96), none]) rfl rfl rfl (sm_W.forget (L' := [some (.ref 0), some (.int x1), some (.int x2), some (.ref 96), none]) ⟨rfl, ⟨rfl, ⟨rfl, ⟨rfl, trivial⟩⟩⟩⟩ (G_Law_lacking (by omega) ht h hQ))
-- 296 Law_widen
noncomputable def F_Law_widen (t : Nat) (x1 : Int32) (x2 : Int32) (I : sm_MI) (J : sm_MJ) : Option (Int32 × sm_MJ) :=
  sd_t1 (F_VM_widen t x1 x2 I) (fun r1 =>
    sd_gu (sm_in (0 : Int32) 1 = true) <|
    sd_lt (sd_upJ J 96 0 (Int32.toInt64 r1)) fun J3 =>
    some ((0 : Int32), J3))
    (fun r1 => if r1 = 1 then
    some ((1 : Int32), J)
  else none)
theorem G_Law_widen {X : Nat × (Nat → Int32)} {t d D : Nat} {Q : sm_Q} {I : sm_MI} {J : sm_MJ} {x1 : Int32} {x2 : Int32} {rz : Int32} {Jz : sm_MJ}
    (hD : 4 ≤ D) (ht : t = 21 ∨ t = 41) (h : F_Law_widen t x1 x2 I J = some (rz, Jz)) (hQ : Q (.inl (some (.int rz))) (I, Jz, sm_rf t d))  : sm_W sm_sh X (sm_C sm_sh X sm_P D) me_296 Q (0, [some (.ref 0), some (.int x1), some (.int x2), some (.ref 96), none], [], 0, 0) (I, J, sm_rf t d) := by
  unfold F_Law_widen at h
  rcases ht with rfl | rfl
  · skip
    refine sm_W.run (sm_C_mono D) 5 (G := True) (fr' := (5, [some (.ref 0), some (.int x1), some (.int x2), some (.ref 96), none], [.int x2, .int x1, .ref 0, .int (0 : Int32), .ref 96], 0, 0)) (M' := (I, J, sm_rf 21 d)) rfl trivial ?_
    rcases sd_t1_go h with ⟨r1, hc, h⟩ | ⟨r1, hc, h⟩
    · refine sm_W.cal (sm_C_mono D) (y := 133) (as := [.ref 0, .int x1, .int x2]) (fr' := (6, [some (.ref 0), some (.int x1), some (.int x2), some (.ref 96), none], [.int (0 : Int32), .ref 96], 2, 12)) rfl (T_VM_widen (by omega) (by decide) hc (fun _ e => ?_) (fun _ e => by cases e))
      cases e
      show sm_W sm_sh X (sm_C sm_sh X sm_P D) me_296 Q (6, [some (.ref 0), some (.int x1), some (.int x2), some (.ref 96), none], [.int r1, .int (0 : Int32), .ref 96], 2, 12) (I, J, sm_rf 21 d)
      obtain ⟨g2, h⟩ := sd_gu_go h
      refine sm_W.runL (sm_C_mono D) 2 (G := sm_in (0 : Int32) 1 = true ∧ True) (e := (sd_upJ J 96 0 (Int32.toInt64 r1))) (fr' := fun _ => (8, [some (.ref 0), some (.int x1), some (.int x2), some (.ref 96), none], [], 2, 12)) (M' := fun J3 => (I, J3, sm_rf 21 d)) rfl h ⟨g2, trivial⟩ (fun J3 h => ?_)
      refine sm_W.run (sm_C_mono D) 2 (G := True) (fr' := (13, [some (.ref 0), some (.int x1), some (.int x2), some (.ref 96), none], [.int (0 : Int32)], 2, 12)) (M' := (I, J3, sm_rf 21 d)) rfl trivial ?_
      cases h
      exact sm_W.ret (sm_C_mono D) rfl hQ
    · refine sm_W.cal (sm_C_mono D) (y := 133) (as := [.ref 0, .int x1, .int x2]) (fr' := (6, [some (.ref 0), some (.int x1), some (.int x2), some (.ref 96), none], [.int (0 : Int32), .ref 96], 2, 12)) rfl (T_VM_widen (by omega) (by decide) hc (fun _ e => by cases e) (fun _ e => ?_))
      cases e
      rcases sd_if_go h with ⟨he, h⟩ | ⟨he, h⟩
      · subst he
        show sm_W sm_sh X (sm_C sm_sh X sm_P D) me_296 Q (10, [some (.ref 0), some (.int x1), some (.int x2), some (.ref 96), none], [], 2, 12) (I, J, sm_rf 21 d)
        refine sm_W.run (sm_C_mono D) 1 (G := True) (fr' := (11, [some (.ref 0), some (.int x1), some (.int x2), some (.ref 96), none], [.int (1 : Int32)], 2, 12)) (M' := (I, J, sm_rf 21 d)) rfl trivial ?_
        cases h
        exact sm_W.ret (sm_C_mono D) rfl hQ
      cases h
  · skip
    refine sm_W.run (sm_C_mono D) 5 (G := True) (fr' := (5, [some (.ref 0), some (.int x1), some (.int x2), some (.ref 96), none], [.int x2, .int x1, .ref 0, .int (0 : Int32), .ref 96], 0, 0)) (M' := (I, J, sm_rf 41 d)) rfl trivial ?_
    rcases sd_t1_go h with ⟨r1, hc, h⟩ | ⟨r1, hc, h⟩
    · refine sm_W.cal (sm_C_mono D) (y := 133) (as := [.ref 0, .int x1, .int x2]) (fr' := (6, [some (.ref 0), some (.int x1), some (.int x2), some (.ref 96), none], [.int (0 : Int32), .ref 96], 2, 12)) rfl (T_VM_widen (by omega) (by decide) hc (fun _ e => ?_) (fun _ e => by cases e))
      cases e
      show sm_W sm_sh X (sm_C sm_sh X sm_P D) me_296 Q (6, [some (.ref 0), some (.int x1), some (.int x2), some (.ref 96), none], [.int r1, .int (0 : Int32), .ref 96], 2, 12) (I, J, sm_rf 41 d)
      obtain ⟨g2, h⟩ := sd_gu_go h
      refine sm_W.runL (sm_C_mono D) 2 (G := sm_in (0 : Int32) 1 = true ∧ True) (e := (sd_upJ J 96 0 (Int32.toInt64 r1))) (fr' := fun _ => (8, [some (.ref 0), some (.int x1), some (.int x2), some (.ref 96), none], [], 2, 12)) (M' := fun J3 => (I, J3, sm_rf 41 d)) rfl h ⟨g2, trivial⟩ (fun J3 h => ?_)
      refine sm_W.run (sm_C_mono D) 2 (G := True) (fr' := (13, [some (.ref 0), some (.int x1), some (.int x2), some (.ref 96), none], [.int (0 : Int32)], 2, 12)) (M' := (I, J3, sm_rf 41 d)) rfl trivial ?_
      cases h
      exact sm_W.ret (sm_C_mono D) rfl hQ
    · refine sm_W.cal (sm_C_mono D) (y := 133) (as := [.ref 0, .int x1, .int x2]) (fr' := (6, [some (.ref 0), some (.int x1), some (.int x2), some (.ref 96), none], [.int (0 : Int32), .ref 96], 2, 12)) rfl (T_VM_widen (by omega) (by decide) hc (fun _ e => by cases e) (fun _ e => ?_))
      cases e
      rcases sd_if_go h with ⟨he, h⟩ | ⟨he, h⟩
      · subst he
        show sm_W sm_sh X (sm_C sm_sh X sm_P D) me_296 Q (10, [some (.ref 0), some (.int x1), some (.int x2), some (.ref 96), none], [], 2, 12) (I, J, sm_rf 41 d)
        refine sm_W.run (sm_C_mono D) 1 (G := True) (fr' := (11, [some (.ref 0), some (.int x1), some (.int x2), some (.ref 96), none], [.int (1 : Int32)], 2, 12)) (M' := (I, J, sm_rf 41 d)) rfl trivial ?_
        cases h
        exact sm_W.ret (sm_C_mono D) rfl hQ
      cases h
theorem T_Law_widen {X : Nat × (Nat → Int32)} {t d D : Nat} {Q : sm_Q} {I : sm_MI} {J : sm_MJ} {x1 : Int32} {x2 : Int32} {rz : Int32} {Jz : sm_MJ}
    (hD : 5 ≤ D) (ht : t = 21 ∨ t = 41) (h : F_Law_widen t x1 x2 I J = some (rz, Jz)) (hQ : Q (.inl (some (.int rz))) (I, Jz, sm_rf t d)) : sm_C sm_sh X sm_P D 296 [.ref 0, .int x1, .int x2, .ref 96] (I, J, sm_rf t d) Q := by
  cases D with
  | zero => omega
  | succ D => exact sm_C.of (me := me_296) (L := [some (.ref 0), some (.int x1), some (.int x2), some (.ref 96), none]) rfl rfl rfl (sm_W.forget (L' := [some (.ref 0), some (.int x1), some (.int x2), some (.ref 96), none]) ⟨rfl, ⟨rfl, ⟨rfl, ⟨rfl, trivial⟩⟩⟩⟩ (G_Law_widen (by omega) ht h hQ))
-- 297 Law_casts
noncomputable def F_Law_casts (t : Nat) (x1 : Int32) (I : sm_MI) (J : sm_MJ) : Option (Int32 × sm_MJ) :=
  sd_t1 (F_VM_casts t x1 I) (fun r1 =>
    sd_gu (sm_in (0 : Int32) 1 = true) <|
    sd_lt (sd_upJ J 96 0 r1) fun J3 =>
    some ((0 : Int32), J3))
    (fun r1 => if r1 = 1 then
    some ((1 : Int32), J)
  else none)
theorem G_Law_casts {X : Nat × (Nat → Int32)} {t d D : Nat} {Q : sm_Q} {I : sm_MI} {J : sm_MJ} {x1 : Int32} {rz : Int32} {Jz : sm_MJ}
    (hD : 4 ≤ D) (ht : t = 21 ∨ t = 41) (h : F_Law_casts t x1 I J = some (rz, Jz)) (hQ : Q (.inl (some (.int rz))) (I, Jz, sm_rf t d))  : sm_W sm_sh X (sm_C sm_sh X sm_P D) me_297 Q (0, [some (.ref 0), some (.int x1), some (.ref 96), none], [], 0, 0) (I, J, sm_rf t d) := by
  unfold F_Law_casts at h
  rcases ht with rfl | rfl
  · skip
    refine sm_W.run (sm_C_mono D) 4 (G := True) (fr' := (4, [some (.ref 0), some (.int x1), some (.ref 96), none], [.int x1, .ref 0, .int (0 : Int32), .ref 96], 0, 0)) (M' := (I, J, sm_rf 21 d)) rfl trivial ?_
    rcases sd_t1_go h with ⟨r1, hc, h⟩ | ⟨r1, hc, h⟩
    · refine sm_W.cal (sm_C_mono D) (y := 130) (as := [.ref 0, .int x1]) (fr' := (5, [some (.ref 0), some (.int x1), some (.ref 96), none], [.int (0 : Int32), .ref 96], 1, 6)) rfl (T_VM_casts (by omega) (by decide) hc (fun _ e => ?_) (fun _ e => by cases e))
      cases e
      show sm_W sm_sh X (sm_C sm_sh X sm_P D) me_297 Q (5, [some (.ref 0), some (.int x1), some (.ref 96), none], [.long r1, .int (0 : Int32), .ref 96], 1, 6) (I, J, sm_rf 21 d)
      obtain ⟨g2, h⟩ := sd_gu_go h
      refine sm_W.runL (sm_C_mono D) 1 (G := sm_in (0 : Int32) 1 = true ∧ True) (e := (sd_upJ J 96 0 r1)) (fr' := fun _ => (6, [some (.ref 0), some (.int x1), some (.ref 96), none], [], 1, 6)) (M' := fun J3 => (I, J3, sm_rf 21 d)) rfl h ⟨g2, trivial⟩ (fun J3 h => ?_)
      refine sm_W.run (sm_C_mono D) 2 (G := True) (fr' := (11, [some (.ref 0), some (.int x1), some (.ref 96), none], [.int (0 : Int32)], 1, 6)) (M' := (I, J3, sm_rf 21 d)) rfl trivial ?_
      cases h
      exact sm_W.ret (sm_C_mono D) rfl hQ
    · refine sm_W.cal (sm_C_mono D) (y := 130) (as := [.ref 0, .int x1]) (fr' := (5, [some (.ref 0), some (.int x1), some (.ref 96), none], [.int (0 : Int32), .ref 96], 1, 6)) rfl (T_VM_casts (by omega) (by decide) hc (fun _ e => by cases e) (fun _ e => ?_))
      cases e
      rcases sd_if_go h with ⟨he, h⟩ | ⟨he, h⟩
      · subst he
        show sm_W sm_sh X (sm_C sm_sh X sm_P D) me_297 Q (8, [some (.ref 0), some (.int x1), some (.ref 96), none], [], 1, 6) (I, J, sm_rf 21 d)
        refine sm_W.run (sm_C_mono D) 1 (G := True) (fr' := (9, [some (.ref 0), some (.int x1), some (.ref 96), none], [.int (1 : Int32)], 1, 6)) (M' := (I, J, sm_rf 21 d)) rfl trivial ?_
        cases h
        exact sm_W.ret (sm_C_mono D) rfl hQ
      cases h
  · skip
    refine sm_W.run (sm_C_mono D) 4 (G := True) (fr' := (4, [some (.ref 0), some (.int x1), some (.ref 96), none], [.int x1, .ref 0, .int (0 : Int32), .ref 96], 0, 0)) (M' := (I, J, sm_rf 41 d)) rfl trivial ?_
    rcases sd_t1_go h with ⟨r1, hc, h⟩ | ⟨r1, hc, h⟩
    · refine sm_W.cal (sm_C_mono D) (y := 130) (as := [.ref 0, .int x1]) (fr' := (5, [some (.ref 0), some (.int x1), some (.ref 96), none], [.int (0 : Int32), .ref 96], 1, 6)) rfl (T_VM_casts (by omega) (by decide) hc (fun _ e => ?_) (fun _ e => by cases e))
      cases e
      show sm_W sm_sh X (sm_C sm_sh X sm_P D) me_297 Q (5, [some (.ref 0), some (.int x1), some (.ref 96), none], [.long r1, .int (0 : Int32), .ref 96], 1, 6) (I, J, sm_rf 41 d)
      obtain ⟨g2, h⟩ := sd_gu_go h
      refine sm_W.runL (sm_C_mono D) 1 (G := sm_in (0 : Int32) 1 = true ∧ True) (e := (sd_upJ J 96 0 r1)) (fr' := fun _ => (6, [some (.ref 0), some (.int x1), some (.ref 96), none], [], 1, 6)) (M' := fun J3 => (I, J3, sm_rf 41 d)) rfl h ⟨g2, trivial⟩ (fun J3 h => ?_)
      refine sm_W.run (sm_C_mono D) 2 (G := True) (fr' := (11, [some (.ref 0), some (.int x1), some (.ref 96), none], [.int (0 : Int32)], 1, 6)) (M' := (I, J3, sm_rf 41 d)) rfl trivial ?_
      cases h
      exact sm_W.ret (sm_C_mono D) rfl hQ
    · refine sm_W.cal (sm_C_mono D) (y := 130) (as := [.ref 0, .int x1]) (fr' := (5, [some (.ref 0), some (.int x1), some (.ref 96), none], [.int (0 : Int32), .ref 96], 1, 6)) rfl (T_VM_casts (by omega) (by decide) hc (fun _ e => by cases e) (fun _ e => ?_))
      cases e
      rcases sd_if_go h with ⟨he, h⟩ | ⟨he, h⟩
      · subst he
        show sm_W sm_sh X (sm_C sm_sh X sm_P D) me_297 Q (8, [some (.ref 0), some (.int x1), some (.ref 96), none], [], 1, 6) (I, J, sm_rf 41 d)
        refine sm_W.run (sm_C_mono D) 1 (G := True) (fr' := (9, [some (.ref 0), some (.int x1), some (.ref 96), none], [.int (1 : Int32)], 1, 6)) (M' := (I, J, sm_rf 41 d)) rfl trivial ?_
        cases h
        exact sm_W.ret (sm_C_mono D) rfl hQ
      cases h
theorem T_Law_casts {X : Nat × (Nat → Int32)} {t d D : Nat} {Q : sm_Q} {I : sm_MI} {J : sm_MJ} {x1 : Int32} {rz : Int32} {Jz : sm_MJ}
    (hD : 5 ≤ D) (ht : t = 21 ∨ t = 41) (h : F_Law_casts t x1 I J = some (rz, Jz)) (hQ : Q (.inl (some (.int rz))) (I, Jz, sm_rf t d)) : sm_C sm_sh X sm_P D 297 [.ref 0, .int x1, .ref 96] (I, J, sm_rf t d) Q := by
  cases D with
  | zero => omega
  | succ D => exact sm_C.of (me := me_297) (L := [some (.ref 0), some (.int x1), some (.ref 96), none]) rfl rfl rfl (sm_W.forget (L' := [some (.ref 0), some (.int x1), some (.ref 96), none]) ⟨rfl, ⟨rfl, ⟨rfl, trivial⟩⟩⟩ (G_Law_casts (by omega) ht h hQ))
-- 298 Law_holds
noncomputable def F_Law_holds (t : Nat) (x1 : Int32) (I : sm_MI) (J : sm_MJ) : Option (Int32 × sm_MI × sm_MJ) :=
  sd_t2 (F_VM_holds t x1 I) (fun r1 I2 =>
    if r1 = 0 then
      sd_gu (sm_in (0 : Int32) 1 = true) <|
      sd_lt (sd_upJ J 96 0 (0 : Int64)) fun J4 =>
      some ((0 : Int32), I2, J4)
    else
      sd_gu (sm_in (0 : Int32) 1 = true) <|
      sd_lt (sd_upJ J 96 0 (1 : Int64)) fun J6 =>
      some ((0 : Int32), I2, J6))
    (fun r1 I2 => if r1 = 1 then
    some ((1 : Int32), I2, J)
  else none)
theorem G_Law_holds {X : Nat × (Nat → Int32)} {t d D : Nat} {Q : sm_Q} {I : sm_MI} {J : sm_MJ} {x1 : Int32} {rz : Int32} {Iz : sm_MI} {Jz : sm_MJ}
    (hD : 5 ≤ D) (ht : t = 21 ∨ t = 41) (h : F_Law_holds t x1 I J = some (rz, Iz, Jz)) (hQ : Q (.inl (some (.int rz))) (Iz, Jz, sm_rf t d))  : sm_W sm_sh X (sm_C sm_sh X sm_P D) me_298 Q (0, [some (.ref 0), some (.int x1), some (.ref 96), none], [], 0, 0) (I, J, sm_rf t d) := by
  unfold F_Law_holds at h
  rcases ht with rfl | rfl
  · skip
    refine sm_W.run (sm_C_mono D) 4 (G := True) (fr' := (4, [some (.ref 0), some (.int x1), some (.ref 96), none], [.int x1, .ref 0, .int (0 : Int32), .ref 96], 0, 0)) (M' := (I, J, sm_rf 21 d)) rfl trivial ?_
    rcases sd_t2_go h with ⟨r1, I2, hc, h⟩ | ⟨r1, I2, hc, h⟩
    · refine sm_W.cal (sm_C_mono D) (y := 141) (as := [.ref 0, .int x1]) (fr' := (5, [some (.ref 0), some (.int x1), some (.ref 96), none], [.int (0 : Int32), .ref 96], 1, 6)) rfl (T_VM_holds (by omega) (by decide) hc (fun _ e => ?_) (fun _ e => by cases e))
      cases e
      show sm_W sm_sh X (sm_C sm_sh X sm_P D) me_298 Q (5, [some (.ref 0), some (.int x1), some (.ref 96), none], [.int r1, .int (0 : Int32), .ref 96], 1, 6) (I2, J, sm_rf 21 d)
      refine sm_W.run (sm_C_mono D) 1 (G := True) (fr' := (if decide (r1 = 0) = true then 8 else 6, [some (.ref 0), some (.int x1), some (.ref 96), none], [.int (0 : Int32), .ref 96], 1, 6)) (M' := (I2, J, sm_rf 21 d)) rfl trivial (sm_W.iteD h (fun hc h => ?_) (fun hc h => ?_))
      · obtain ⟨g3, h⟩ := sd_gu_go h
        refine sm_W.runL (sm_C_mono D) 2 (G := sm_in (0 : Int32) 1 = true ∧ True) (e := (sd_upJ J 96 0 (0 : Int64))) (fr' := fun _ => (10, [some (.ref 0), some (.int x1), some (.ref 96), none], [], 1, 6)) (M' := fun J4 => (I2, J4, sm_rf 21 d)) rfl h ⟨g3, trivial⟩ (fun J4 h => ?_)
        refine sm_W.run (sm_C_mono D) 2 (G := True) (fr' := (15, [some (.ref 0), some (.int x1), some (.ref 96), none], [.int (0 : Int32)], 1, 6)) (M' := (I2, J4, sm_rf 21 d)) rfl trivial ?_
        cases h
        exact sm_W.ret (sm_C_mono D) rfl hQ
      · obtain ⟨g5, h⟩ := sd_gu_go h
        refine sm_W.runL (sm_C_mono D) 3 (G := sm_in (0 : Int32) 1 = true ∧ True) (e := (sd_upJ J 96 0 (1 : Int64))) (fr' := fun _ => (10, [some (.ref 0), some (.int x1), some (.ref 96), none], [], 1, 6)) (M' := fun J6 => (I2, J6, sm_rf 21 d)) rfl h ⟨g5, trivial⟩ (fun J6 h => ?_)
        refine sm_W.run (sm_C_mono D) 2 (G := True) (fr' := (15, [some (.ref 0), some (.int x1), some (.ref 96), none], [.int (0 : Int32)], 1, 6)) (M' := (I2, J6, sm_rf 21 d)) rfl trivial ?_
        cases h
        exact sm_W.ret (sm_C_mono D) rfl hQ
    · refine sm_W.cal (sm_C_mono D) (y := 141) (as := [.ref 0, .int x1]) (fr' := (5, [some (.ref 0), some (.int x1), some (.ref 96), none], [.int (0 : Int32), .ref 96], 1, 6)) rfl (T_VM_holds (by omega) (by decide) hc (fun _ e => by cases e) (fun _ e => ?_))
      cases e
      rcases sd_if_go h with ⟨he, h⟩ | ⟨he, h⟩
      · subst he
        show sm_W sm_sh X (sm_C sm_sh X sm_P D) me_298 Q (12, [some (.ref 0), some (.int x1), some (.ref 96), none], [], 1, 6) (I2, J, sm_rf 21 d)
        refine sm_W.run (sm_C_mono D) 1 (G := True) (fr' := (13, [some (.ref 0), some (.int x1), some (.ref 96), none], [.int (1 : Int32)], 1, 6)) (M' := (I2, J, sm_rf 21 d)) rfl trivial ?_
        cases h
        exact sm_W.ret (sm_C_mono D) rfl hQ
      cases h
  · skip
    refine sm_W.run (sm_C_mono D) 4 (G := True) (fr' := (4, [some (.ref 0), some (.int x1), some (.ref 96), none], [.int x1, .ref 0, .int (0 : Int32), .ref 96], 0, 0)) (M' := (I, J, sm_rf 41 d)) rfl trivial ?_
    rcases sd_t2_go h with ⟨r1, I2, hc, h⟩ | ⟨r1, I2, hc, h⟩
    · refine sm_W.cal (sm_C_mono D) (y := 141) (as := [.ref 0, .int x1]) (fr' := (5, [some (.ref 0), some (.int x1), some (.ref 96), none], [.int (0 : Int32), .ref 96], 1, 6)) rfl (T_VM_holds (by omega) (by decide) hc (fun _ e => ?_) (fun _ e => by cases e))
      cases e
      show sm_W sm_sh X (sm_C sm_sh X sm_P D) me_298 Q (5, [some (.ref 0), some (.int x1), some (.ref 96), none], [.int r1, .int (0 : Int32), .ref 96], 1, 6) (I2, J, sm_rf 41 d)
      refine sm_W.run (sm_C_mono D) 1 (G := True) (fr' := (if decide (r1 = 0) = true then 8 else 6, [some (.ref 0), some (.int x1), some (.ref 96), none], [.int (0 : Int32), .ref 96], 1, 6)) (M' := (I2, J, sm_rf 41 d)) rfl trivial (sm_W.iteD h (fun hc h => ?_) (fun hc h => ?_))
      · obtain ⟨g3, h⟩ := sd_gu_go h
        refine sm_W.runL (sm_C_mono D) 2 (G := sm_in (0 : Int32) 1 = true ∧ True) (e := (sd_upJ J 96 0 (0 : Int64))) (fr' := fun _ => (10, [some (.ref 0), some (.int x1), some (.ref 96), none], [], 1, 6)) (M' := fun J4 => (I2, J4, sm_rf 41 d)) rfl h ⟨g3, trivial⟩ (fun J4 h => ?_)
        refine sm_W.run (sm_C_mono D) 2 (G := True) (fr' := (15, [some (.ref 0), some (.int x1), some (.ref 96), none], [.int (0 : Int32)], 1, 6)) (M' := (I2, J4, sm_rf 41 d)) rfl trivial ?_
        cases h
        exact sm_W.ret (sm_C_mono D) rfl hQ
      · obtain ⟨g5, h⟩ := sd_gu_go h
        refine sm_W.runL (sm_C_mono D) 3 (G := sm_in (0 : Int32) 1 = true ∧ True) (e := (sd_upJ J 96 0 (1 : Int64))) (fr' := fun _ => (10, [some (.ref 0), some (.int x1), some (.ref 96), none], [], 1, 6)) (M' := fun J6 => (I2, J6, sm_rf 41 d)) rfl h ⟨g5, trivial⟩ (fun J6 h => ?_)
        refine sm_W.run (sm_C_mono D) 2 (G := True) (fr' := (15, [some (.ref 0), some (.int x1), some (.ref 96), none], [.int (0 : Int32)], 1, 6)) (M' := (I2, J6, sm_rf 41 d)) rfl trivial ?_
        cases h
        exact sm_W.ret (sm_C_mono D) rfl hQ
    · refine sm_W.cal (sm_C_mono D) (y := 141) (as := [.ref 0, .int x1]) (fr' := (5, [some (.ref 0), some (.int x1), some (.ref 96), none], [.int (0 : Int32), .ref 96], 1, 6)) rfl (T_VM_holds (by omega) (by decide) hc (fun _ e => by cases e) (fun _ e => ?_))
      cases e
      rcases sd_if_go h with ⟨he, h⟩ | ⟨he, h⟩
      · subst he
        show sm_W sm_sh X (sm_C sm_sh X sm_P D) me_298 Q (12, [some (.ref 0), some (.int x1), some (.ref 96), none], [], 1, 6) (I2, J, sm_rf 41 d)
        refine sm_W.run (sm_C_mono D) 1 (G := True) (fr' := (13, [some (.ref 0), some (.int x1), some (.ref 96), none], [.int (1 : Int32)], 1, 6)) (M' := (I2, J, sm_rf 41 d)) rfl trivial ?_
        cases h
        exact sm_W.ret (sm_C_mono D) rfl hQ
      cases h
theorem T_Law_holds {X : Nat × (Nat → Int32)} {t d D : Nat} {Q : sm_Q} {I : sm_MI} {J : sm_MJ} {x1 : Int32} {rz : Int32} {Iz : sm_MI} {Jz : sm_MJ}
    (hD : 6 ≤ D) (ht : t = 21 ∨ t = 41) (h : F_Law_holds t x1 I J = some (rz, Iz, Jz)) (hQ : Q (.inl (some (.int rz))) (Iz, Jz, sm_rf t d)) : sm_C sm_sh X sm_P D 298 [.ref 0, .int x1, .ref 96] (I, J, sm_rf t d) Q := by
  cases D with
  | zero => omega
  | succ D => exact sm_C.of (me := me_298) (L := [some (.ref 0), some (.int x1), some (.ref 96), none]) rfl rfl rfl (sm_W.forget (L' := [some (.ref 0), some (.int x1), some (.ref 96), none]) ⟨rfl, ⟨rfl, ⟨rfl, trivial⟩⟩⟩ (G_Law_holds (by omega) ht h hQ))
