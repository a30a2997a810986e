/-! ===== printed by wip/gen/emit_parts.py: what the methods compute ===== -/
-- 299 Law_aimed
noncomputable def F_Law_aimed (t : Nat) (x1 : Int32) (I : sm_MI) (J : sm_MJ) : Option (Int32 × sm_MI × sm_MJ) :=
  sd_t2 (F_VM_aimed t x1 I) (fun r1 I2 =>
    sd_gu (sm_in (0 : Int32) 1 = true) <|
    sd_lt (sd_upJ J 96 0 (Int32.toInt64 r1)) fun J4 =>
    some ((0 : Int32), I2, J4))
    (fun r1 I2 => if r1 = 1 then
    some ((1 : Int32), I2, J)
  else none)
theorem G_Law_aimed {X : Nat × (Nat → Int32)} {t d D : Nat} {Q : sm_Q} {I : sm_MI} {J : sm_MJ} {x1 : Int32} {rz : Int32} {Iz : sm_MI} {Jz : sm_MJ}
    (hD : 5 ≤ D) (ht : t = 21 ∨ t = 41) (h : F_Law_aimed t x1 I J = some (rz, Iz, Jz)) (hQ : Q (.inl (some (.int rz))) (Iz, Jz, sm_rf t d))  : sm_W sm_sh X (sm_C sm_sh X sm_P D) me_299 Q (0, [some (.ref 0), some (.int x1), some (.ref 96), none], [], 0, 0) (I, J, sm_rf t d) := by
  unfold F_Law_aimed at h
  rcases ht with rfl | rfl
  · skip
    refine sm_W.run (sm_C_mono D) 4 (G := True) (fr' := (4, [some (.ref 0), some (.int x1), some (.ref 96), none], [.int x1, .ref 0, .int (0 : Int32), .ref 96], 0, 0)) (M' := (I, J, sm_rf 21 d)) rfl trivial ?_
    rcases sd_t2_go h with ⟨r1, I2, hc, h⟩ | ⟨r1, I2, hc, h⟩
    · refine sm_W.cal (sm_C_mono D) (y := 142) (as := [.ref 0, .int x1]) (fr' := (5, [some (.ref 0), some (.int x1), some (.ref 96), none], [.int (0 : Int32), .ref 96], 1, 6)) rfl (T_VM_aimed (by omega) (by decide) hc (fun _ e => ?_) (fun _ e => by cases e))
      cases e
      show sm_W sm_sh X (sm_C sm_sh X sm_P D) me_299 Q (5, [some (.ref 0), some (.int x1), some (.ref 96), none], [.int r1, .int (0 : Int32), .ref 96], 1, 6) (I2, J, sm_rf 21 d)
      obtain ⟨g3, h⟩ := sd_gu_go h
      refine sm_W.runL (sm_C_mono D) 2 (G := sm_in (0 : Int32) 1 = true ∧ True) (e := (sd_upJ J 96 0 (Int32.toInt64 r1))) (fr' := fun _ => (7, [some (.ref 0), some (.int x1), some (.ref 96), none], [], 1, 6)) (M' := fun J4 => (I2, J4, sm_rf 21 d)) rfl h ⟨g3, trivial⟩ (fun J4 h => ?_)
      refine sm_W.run (sm_C_mono D) 2 (G := True) (fr' := (12, [some (.ref 0), some (.int x1), some (.ref 96), none], [.int (0 : Int32)], 1, 6)) (M' := (I2, J4, sm_rf 21 d)) rfl trivial ?_
      cases h
      exact sm_W.ret (sm_C_mono D) rfl hQ
    · refine sm_W.cal (sm_C_mono D) (y := 142) (as := [.ref 0, .int x1]) (fr' := (5, [some (.ref 0), some (.int x1), some (.ref 96), none], [.int (0 : Int32), .ref 96], 1, 6)) rfl (T_VM_aimed (by omega) (by decide) hc (fun _ e => by cases e) (fun _ e => ?_))
      cases e
      rcases sd_if_go h with ⟨he, h⟩ | ⟨he, h⟩
      · subst he
        show sm_W sm_sh X (sm_C sm_sh X sm_P D) me_299 Q (9, [some (.ref 0), some (.int x1), some (.ref 96), none], [], 1, 6) (I2, J, sm_rf 21 d)
        refine sm_W.run (sm_C_mono D) 1 (G := True) (fr' := (10, [some (.ref 0), some (.int x1), some (.ref 96), none], [.int (1 : Int32)], 1, 6)) (M' := (I2, J, sm_rf 21 d)) rfl trivial ?_
        cases h
        exact sm_W.ret (sm_C_mono D) rfl hQ
      cases h
  · skip
    refine sm_W.run (sm_C_mono D) 4 (G := True) (fr' := (4, [some (.ref 0), some (.int x1), some (.ref 96), none], [.int x1, .ref 0, .int (0 : Int32), .ref 96], 0, 0)) (M' := (I, J, sm_rf 41 d)) rfl trivial ?_
    rcases sd_t2_go h with ⟨r1, I2, hc, h⟩ | ⟨r1, I2, hc, h⟩
    · refine sm_W.cal (sm_C_mono D) (y := 142) (as := [.ref 0, .int x1]) (fr' := (5, [some (.ref 0), some (.int x1), some (.ref 96), none], [.int (0 : Int32), .ref 96], 1, 6)) rfl (T_VM_aimed (by omega) (by decide) hc (fun _ e => ?_) (fun _ e => by cases e))
      cases e
      show sm_W sm_sh X (sm_C sm_sh X sm_P D) me_299 Q (5, [some (.ref 0), some (.int x1), some (.ref 96), none], [.int r1, .int (0 : Int32), .ref 96], 1, 6) (I2, J, sm_rf 41 d)
      obtain ⟨g3, h⟩ := sd_gu_go h
      refine sm_W.runL (sm_C_mono D) 2 (G := sm_in (0 : Int32) 1 = true ∧ True) (e := (sd_upJ J 96 0 (Int32.toInt64 r1))) (fr' := fun _ => (7, [some (.ref 0), some (.int x1), some (.ref 96), none], [], 1, 6)) (M' := fun J4 => (I2, J4, sm_rf 41 d)) rfl h ⟨g3, trivial⟩ (fun J4 h => ?_)
      refine sm_W.run (sm_C_mono D) 2 (G := True) (fr' := (12, [some (.ref 0), some (.int x1), some (.ref 96), none], [.int (0 : Int32)], 1, 6)) (M' := (I2, J4, sm_rf 41 d)) rfl trivial ?_
      cases h
      exact sm_W.ret (sm_C_mono D) rfl hQ
    · refine sm_W.cal (sm_C_mono D) (y := 142) (as := [.ref 0, .int x1]) (fr' := (5, [some (.ref 0), some (.int x1), some (.ref 96), none], [.int (0 : Int32), .ref 96], 1, 6)) rfl (T_VM_aimed (by omega) (by decide) hc (fun _ e => by cases e) (fun _ e => ?_))
      cases e
      rcases sd_if_go h with ⟨he, h⟩ | ⟨he, h⟩
      · subst he
        show sm_W sm_sh X (sm_C sm_sh X sm_P D) me_299 Q (9, [some (.ref 0), some (.int x1), some (.ref 96), none], [], 1, 6) (I2, J, sm_rf 41 d)
        refine sm_W.run (sm_C_mono D) 1 (G := True) (fr' := (10, [some (.ref 0), some (.int x1), some (.ref 96), none], [.int (1 : Int32)], 1, 6)) (M' := (I2, J, sm_rf 41 d)) rfl trivial ?_
        cases h
        exact sm_W.ret (sm_C_mono D) rfl hQ
      cases h
theorem T_Law_aimed {X : Nat × (Nat → Int32)} {t d D : Nat} {Q : sm_Q} {I : sm_MI} {J : sm_MJ} {x1 : Int32} {rz : Int32} {Iz : sm_MI} {Jz : sm_MJ}
    (hD : 6 ≤ D) (ht : t = 21 ∨ t = 41) (h : F_Law_aimed t x1 I J = some (rz, Iz, Jz)) (hQ : Q (.inl (some (.int rz))) (Iz, Jz, sm_rf t d)) : sm_C sm_sh X sm_P D 299 [.ref 0, .int x1, .ref 96] (I, J, sm_rf t d) Q := by
  cases D with
  | zero => omega
  | succ D => exact sm_C.of (me := me_299) (L := [some (.ref 0), some (.int x1), some (.ref 96), none]) rfl rfl rfl (sm_W.forget (L' := [some (.ref 0), some (.int x1), some (.ref 96), none]) ⟨rfl, ⟨rfl, ⟨rfl, trivial⟩⟩⟩ (G_Law_aimed (by omega) ht h hQ))
-- 300 Law_held
noncomputable def F_Law_held (t : Nat) (x1 : Int32) (x2 : Int32) (I : sm_MI) (J : sm_MJ) : Option (Int32 × sm_MI × sm_MJ) :=
  sd_t2 (F_VM_held t x1 x2 I) (fun r1 I2 =>
    sd_gu (sm_in (0 : Int32) 1 = true) <|
    sd_lt (sd_upJ J 96 0 (Int32.toInt64 r1)) fun J4 =>
    some ((0 : Int32), I2, J4))
    (fun r1 I2 => if r1 = 1 then
    some ((1 : Int32), I2, J)
  else if r1 = 0 then
    some ((2 : Int32), I2, J)
  else none)
theorem G_Law_held {X : Nat × (Nat → Int32)} {t d D : Nat} {Q : sm_Q} {I : sm_MI} {J : sm_MJ} {x1 : Int32} {x2 : Int32} {rz : Int32} {Iz : sm_MI} {Jz : sm_MJ}
    (hD : 7 ≤ D) (ht : t = 21 ∨ t = 41) (h : F_Law_held t x1 x2 I J = some (rz, Iz, Jz)) (hQ : Q (.inl (some (.int rz))) (Iz, Jz, sm_rf t d))  : sm_W sm_sh X (sm_C sm_sh X sm_P D) me_300 Q (0, [some (.ref 0), some (.int x1), some (.int x2), some (.ref 96), none], [], 0, 0) (I, J, sm_rf t d) := by
  unfold F_Law_held at h
  rcases ht with rfl | rfl
  · skip
    refine sm_W.run (sm_C_mono D) 5 (G := True) (fr' := (5, [some (.ref 0), some (.int x1), some (.int x2), some (.ref 96), none], [.int x2, .int x1, .ref 0, .int (0 : Int32), .ref 96], 0, 0)) (M' := (I, J, sm_rf 21 d)) rfl trivial ?_
    rcases sd_t2_go h with ⟨r1, I2, hc, h⟩ | ⟨r1, I2, hc, h⟩
    · refine sm_W.cal (sm_C_mono D) (y := 146) (as := [.ref 0, .int x1, .int x2]) (fr' := (6, [some (.ref 0), some (.int x1), some (.int x2), some (.ref 96), none], [.int (0 : Int32), .ref 96], 2, 12)) rfl (T_VM_held (by omega) (by decide) hc (fun _ e => ?_) (fun _ e => by cases e))
      cases e
      show sm_W sm_sh X (sm_C sm_sh X sm_P D) me_300 Q (6, [some (.ref 0), some (.int x1), some (.int x2), some (.ref 96), none], [.int r1, .int (0 : Int32), .ref 96], 2, 12) (I2, J, sm_rf 21 d)
      obtain ⟨g3, h⟩ := sd_gu_go h
      refine sm_W.runL (sm_C_mono D) 2 (G := sm_in (0 : Int32) 1 = true ∧ True) (e := (sd_upJ J 96 0 (Int32.toInt64 r1))) (fr' := fun _ => (8, [some (.ref 0), some (.int x1), some (.int x2), some (.ref 96), none], [], 2, 12)) (M' := fun J4 => (I2, J4, sm_rf 21 d)) rfl h ⟨g3, trivial⟩ (fun J4 h => ?_)
      refine sm_W.run (sm_C_mono D) 2 (G := True) (fr' := (16, [some (.ref 0), some (.int x1), some (.int x2), some (.ref 96), none], [.int (0 : Int32)], 2, 12)) (M' := (I2, J4, sm_rf 21 d)) rfl trivial ?_
      cases h
      exact sm_W.ret (sm_C_mono D) rfl hQ
    · refine sm_W.cal (sm_C_mono D) (y := 146) (as := [.ref 0, .int x1, .int x2]) (fr' := (6, [some (.ref 0), some (.int x1), some (.int x2), some (.ref 96), none], [.int (0 : Int32), .ref 96], 2, 12)) rfl (T_VM_held (by omega) (by decide) hc (fun _ e => by cases e) (fun _ e => ?_))
      cases e
      rcases sd_if_go h with ⟨he, h⟩ | ⟨he, h⟩
      · subst he
        show sm_W sm_sh X (sm_C sm_sh X sm_P D) me_300 Q (10, [some (.ref 0), some (.int x1), some (.int x2), some (.ref 96), none], [], 2, 12) (I2, J, sm_rf 21 d)
        refine sm_W.run (sm_C_mono D) 1 (G := True) (fr' := (11, [some (.ref 0), some (.int x1), some (.int x2), some (.ref 96), none], [.int (1 : Int32)], 2, 12)) (M' := (I2, J, sm_rf 21 d)) rfl trivial ?_
        cases h
        exact sm_W.ret (sm_C_mono D) rfl hQ
      rcases sd_if_go h with ⟨he, h⟩ | ⟨he, h⟩
      · subst he
        show sm_W sm_sh X (sm_C sm_sh X sm_P D) me_300 Q (13, [some (.ref 0), some (.int x1), some (.int x2), some (.ref 96), none], [], 2, 12) (I2, J, sm_rf 21 d)
        refine sm_W.run (sm_C_mono D) 1 (G := True) (fr' := (14, [some (.ref 0), some (.int x1), some (.int x2), some (.ref 96), none], [.int (2 : Int32)], 2, 12)) (M' := (I2, J, sm_rf 21 d)) rfl trivial ?_
        cases h
        exact sm_W.ret (sm_C_mono D) rfl hQ
      cases h
  · skip
    refine sm_W.run (sm_C_mono D) 5 (G := True) (fr' := (5, [some (.ref 0), some (.int x1), some (.int x2), some (.ref 96), none], [.int x2, .int x1, .ref 0, .int (0 : Int32), .ref 96], 0, 0)) (M' := (I, J, sm_rf 41 d)) rfl trivial ?_
    rcases sd_t2_go h with ⟨r1, I2, hc, h⟩ | ⟨r1, I2, hc, h⟩
    · refine sm_W.cal (sm_C_mono D) (y := 146) (as := [.ref 0, .int x1, .int x2]) (fr' := (6, [some (.ref 0), some (.int x1), some (.int x2), some (.ref 96), none], [.int (0 : Int32), .ref 96], 2, 12)) rfl (T_VM_held (by omega) (by decide) hc (fun _ e => ?_) (fun _ e => by cases e))
      cases e
      show sm_W sm_sh X (sm_C sm_sh X sm_P D) me_300 Q (6, [some (.ref 0), some (.int x1), some (.int x2), some (.ref 96), none], [.int r1, .int (0 : Int32), .ref 96], 2, 12) (I2, J, sm_rf 41 d)
      obtain ⟨g3, h⟩ := sd_gu_go h
      refine sm_W.runL (sm_C_mono D) 2 (G := sm_in (0 : Int32) 1 = true ∧ True) (e := (sd_upJ J 96 0 (Int32.toInt64 r1))) (fr' := fun _ => (8, [some (.ref 0), some (.int x1), some (.int x2), some (.ref 96), none], [], 2, 12)) (M' := fun J4 => (I2, J4, sm_rf 41 d)) rfl h ⟨g3, trivial⟩ (fun J4 h => ?_)
      refine sm_W.run (sm_C_mono D) 2 (G := True) (fr' := (16, [some (.ref 0), some (.int x1), some (.int x2), some (.ref 96), none], [.int (0 : Int32)], 2, 12)) (M' := (I2, J4, sm_rf 41 d)) rfl trivial ?_
      cases h
      exact sm_W.ret (sm_C_mono D) rfl hQ
    · refine sm_W.cal (sm_C_mono D) (y := 146) (as := [.ref 0, .int x1, .int x2]) (fr' := (6, [some (.ref 0), some (.int x1), some (.int x2), some (.ref 96), none], [.int (0 : Int32), .ref 96], 2, 12)) rfl (T_VM_held (by omega) (by decide) hc (fun _ e => by cases e) (fun _ e => ?_))
      cases e
      rcases sd_if_go h with ⟨he, h⟩ | ⟨he, h⟩
      · subst he
        show sm_W sm_sh X (sm_C sm_sh X sm_P D) me_300 Q (10, [some (.ref 0), some (.int x1), some (.int x2), some (.ref 96), none], [], 2, 12) (I2, J, sm_rf 41 d)
        refine sm_W.run (sm_C_mono D) 1 (G := True) (fr' := (11, [some (.ref 0), some (.int x1), some (.int x2), some (.ref 96), none], [.int (1 : Int32)], 2, 12)) (M' := (I2, J, sm_rf 41 d)) rfl trivial ?_
        cases h
        exact sm_W.ret (sm_C_mono D) rfl hQ
      rcases sd_if_go h with ⟨he, h⟩ | ⟨he, h⟩
      · subst he
        show sm_W sm_sh X (sm_C sm_sh X sm_P D) me_300 Q (13, [some (.ref 0), some (.int x1), some (.int x2), some (.ref 96), none], [], 2, 12) (I2, J, sm_rf 41 d)
        refine sm_W.run (sm_C_mono D) 1 (G := True) (fr' := (14, [some (.ref 0), some (.int x1), some (.int x2), some (.ref 96), none], [.int (2 : Int32)], 2, 12)) (M' := (I2, J, sm_rf 41 d)) rfl trivial ?_
        cases h
        exact sm_W.ret (sm_C_mono D) rfl hQ
      cases h
theorem T_Law_held {X : Nat × (Nat → Int32)} {t d D : Nat} {Q : sm_Q} {I : sm_MI} {J : sm_MJ} {x1 : Int32} {x2 : Int32} {rz : Int32} {Iz : sm_MI} {Jz : sm_MJ}
    (hD : 8 ≤ D) (ht : t = 21 ∨ t = 41) (h : F_Law_held t x1 x2 I J = some (rz, Iz, Jz)) (hQ : Q (.inl (some (.int rz))) (Iz, Jz, sm_rf t d)) : sm_C sm_sh X sm_P D 300 [.ref 0, .int x1, .int x2, .ref 96] (I, J, sm_rf t d) Q := by
  cases D with
  | zero => omega
  | succ D => exact sm_C.of (me := me_300) (L := [some (.ref 0), some (.int x1), some (.int x2), some (.ref 96), none]) rfl rfl rfl (sm_W.forget (L' := [some (.ref 0), some (.int x1), some (.int x2), some (.ref 96), none]) ⟨rfl, ⟨rfl, ⟨rfl, ⟨rfl, trivial⟩⟩⟩⟩ (G_Law_held (by omega) ht h hQ))
-- 301 Law_lost
noncomputable def F_Law_lost (t : Nat) (x1 : Int32) (I : sm_MI) (J : sm_MJ) : Option (Int32 × sm_MI × sm_MJ) :=
  sd_t2 (F_VM_lost t x1 I) (fun r1 I2 =>
    sd_gu (sm_in (0 : Int32) 1 = true) <|
    sd_lt (sd_upJ J 96 0 (Int32.toInt64 r1)) fun J4 =>
    some ((0 : Int32), I2, J4))
    (fun r1 I2 => if r1 = 1 then
    some ((1 : Int32), I2, J)
  else none)
theorem G_Law_lost {X : Nat × (Nat → Int32)} {t d D : Nat} {Q : sm_Q} {I : sm_MI} {J : sm_MJ} {x1 : Int32} {rz : Int32} {Iz : sm_MI} {Jz : sm_MJ}
    (hD : 7 ≤ D) (ht : t = 21 ∨ t = 41) (h : F_Law_lost t x1 I J = some (rz, Iz, Jz)) (hQ : Q (.inl (some (.int rz))) (Iz, Jz, sm_rf t d))  : sm_W sm_sh X (sm_C sm_sh X sm_P D) me_301 Q (0, [some (.ref 0), some (.int x1), some (.ref 96), none], [], 0, 0) (I, J, sm_rf t d) := by
  unfold F_Law_lost at h
  rcases ht with rfl | rfl
  · skip
    refine sm_W.run (sm_C_mono D) 4 (G := True) (fr' := (4, [some (.ref 0), some (.int x1), some (.ref 96), none], [.int x1, .ref 0, .int (0 : Int32), .ref 96], 0, 0)) (M' := (I, J, sm_rf 21 d)) rfl trivial ?_
    rcases sd_t2_go h with ⟨r1, I2, hc, h⟩ | ⟨r1, I2, hc, h⟩
    · refine sm_W.cal (sm_C_mono D) (y := 147) (as := [.ref 0, .int x1]) (fr' := (5, [some (.ref 0), some (.int x1), some (.ref 96), none], [.int (0 : Int32), .ref 96], 1, 6)) rfl (T_VM_lost (by omega) (by decide) hc (fun _ e => ?_) (fun _ e => by cases e))
      cases e
      show sm_W sm_sh X (sm_C sm_sh X sm_P D) me_301 Q (5, [some (.ref 0), some (.int x1), some (.ref 96), none], [.int r1, .int (0 : Int32), .ref 96], 1, 6) (I2, J, sm_rf 21 d)
      obtain ⟨g3, h⟩ := sd_gu_go h
      refine sm_W.runL (sm_C_mono D) 2 (G := sm_in (0 : Int32) 1 = true ∧ True) (e := (sd_upJ J 96 0 (Int32.toInt64 r1))) (fr' := fun _ => (7, [some (.ref 0), some (.int x1), some (.ref 96), none], [], 1, 6)) (M' := fun J4 => (I2, J4, sm_rf 21 d)) rfl h ⟨g3, trivial⟩ (fun J4 h => ?_)
      refine sm_W.run (sm_C_mono D) 2 (G := True) (fr' := (12, [some (.ref 0), some (.int x1), some (.ref 96), none], [.int (0 : Int32)], 1, 6)) (M' := (I2, J4, sm_rf 21 d)) rfl trivial ?_
      cases h
      exact sm_W.ret (sm_C_mono D) rfl hQ
    · refine sm_W.cal (sm_C_mono D) (y := 147) (as := [.ref 0, .int x1]) (fr' := (5, [some (.ref 0), some (.int x1), some (.ref 96), none], [.int (0 : Int32), .ref 96], 1, 6)) rfl (T_VM_lost (by omega) (by decide) hc (fun _ e => by cases e) (fun _ e => ?_))
      cases e
      rcases sd_if_go h with ⟨he, h⟩ | ⟨he, h⟩
      · subst he
        show sm_W sm_sh X (sm_C sm_sh X sm_P D) me_301 Q (9, [some (.ref 0), some (.int x1), some (.ref 96), none], [], 1, 6) (I2, J, sm_rf 21 d)
        refine sm_W.run (sm_C_mono D) 1 (G := True) (fr' := (10, [some (.ref 0), some (.int x1), some (.ref 96), none], [.int (1 : Int32)], 1, 6)) (M' := (I2, J, sm_rf 21 d)) rfl trivial ?_
        cases h
        exact sm_W.ret (sm_C_mono D) rfl hQ
      cases h
  · skip
    refine sm_W.run (sm_C_mono D) 4 (G := True) (fr' := (4, [some (.ref 0), some (.int x1), some (.ref 96), none], [.int x1, .ref 0, .int (0 : Int32), .ref 96], 0, 0)) (M' := (I, J, sm_rf 41 d)) rfl trivial ?_
    rcases sd_t2_go h with ⟨r1, I2, hc, h⟩ | ⟨r1, I2, hc, h⟩
    · refine sm_W.cal (sm_C_mono D) (y := 147) (as := [.ref 0, .int x1]) (fr' := (5, [some (.ref 0), some (.int x1), some (.ref 96), none], [.int (0 : Int32), .ref 96], 1, 6)) rfl (T_VM_lost (by omega) (by decide) hc (fun _ e => ?_) (fun _ e => by cases e))
      cases e
      show sm_W sm_sh X (sm_C sm_sh X sm_P D) me_301 Q (5, [some (.ref 0), some (.int x1), some (.ref 96), none], [.int r1, .int (0 : Int32), .ref 96], 1, 6) (I2, J, sm_rf 41 d)
      obtain ⟨g3, h⟩ := sd_gu_go h
      refine sm_W.runL (sm_C_mono D) 2 (G := sm_in (0 : Int32) 1 = true ∧ True) (e := (sd_upJ J 96 0 (Int32.toInt64 r1))) (fr' := fun _ => (7, [some (.ref 0), some (.int x1), some (.ref 96), none], [], 1, 6)) (M' := fun J4 => (I2, J4, sm_rf 41 d)) rfl h ⟨g3, trivial⟩ (fun J4 h => ?_)
      refine sm_W.run (sm_C_mono D) 2 (G := True) (fr' := (12, [some (.ref 0), some (.int x1), some (.ref 96), none], [.int (0 : Int32)], 1, 6)) (M' := (I2, J4, sm_rf 41 d)) rfl trivial ?_
      cases h
      exact sm_W.ret (sm_C_mono D) rfl hQ
    · refine sm_W.cal (sm_C_mono D) (y := 147) (as := [.ref 0, .int x1]) (fr' := (5, [some (.ref 0), some (.int x1), some (.ref 96), none], [.int (0 : Int32), .ref 96], 1, 6)) rfl (T_VM_lost (by omega) (by decide) hc (fun _ e => by cases e) (fun _ e => ?_))
      cases e
      rcases sd_if_go h with ⟨he, h⟩ | ⟨he, h⟩
      · subst he
        show sm_W sm_sh X (sm_C sm_sh X sm_P D) me_301 Q (9, [some (.ref 0), some (.int x1), some (.ref 96), none], [], 1, 6) (I2, J, sm_rf 41 d)
        refine sm_W.run (sm_C_mono D) 1 (G := True) (fr' := (10, [some (.ref 0), some (.int x1), some (.ref 96), none], [.int (1 : Int32)], 1, 6)) (M' := (I2, J, sm_rf 41 d)) rfl trivial ?_
        cases h
        exact sm_W.ret (sm_C_mono D) rfl hQ
      cases h
theorem T_Law_lost {X : Nat × (Nat → Int32)} {t d D : Nat} {Q : sm_Q} {I : sm_MI} {J : sm_MJ} {x1 : Int32} {rz : Int32} {Iz : sm_MI} {Jz : sm_MJ}
    (hD : 8 ≤ D) (ht : t = 21 ∨ t = 41) (h : F_Law_lost t x1 I J = some (rz, Iz, Jz)) (hQ : Q (.inl (some (.int rz))) (Iz, Jz, sm_rf t d)) : sm_C sm_sh X sm_P D 301 [.ref 0, .int x1, .ref 96] (I, J, sm_rf t d) Q := by
  cases D with
  | zero => omega
  | succ D => exact sm_C.of (me := me_301) (L := [some (.ref 0), some (.int x1), some (.ref 96), none]) rfl rfl rfl (sm_W.forget (L' := [some (.ref 0), some (.int x1), some (.ref 96), none]) ⟨rfl, ⟨rfl, ⟨rfl, trivial⟩⟩⟩ (G_Law_lost (by omega) ht h hQ))
-- 302 Law_gone
noncomputable def F_Law_gone (t : Nat) (x1 : Int32) (I : sm_MI) (J : sm_MJ) : Option (Int32 × sm_MI × sm_MJ) :=
  sd_t2 (F_VM_gone t x1 I) (fun r1 I2 =>
    sd_gu (sm_in (0 : Int32) 1 = true) <|
    sd_lt (sd_upJ J 96 0 (Int32.toInt64 r1)) fun J4 =>
    some ((0 : Int32), I2, J4))
    (fun r1 I2 => if r1 = 1 then
    some ((1 : Int32), I2, J)
  else none)
theorem G_Law_gone {X : Nat × (Nat → Int32)} {t d D : Nat} {Q : sm_Q} {I : sm_MI} {J : sm_MJ} {x1 : Int32} {rz : Int32} {Iz : sm_MI} {Jz : sm_MJ}
    (hD : 7 ≤ D) (ht : t = 21 ∨ t = 41) (h : F_Law_gone t x1 I J = some (rz, Iz, Jz)) (hQ : Q (.inl (some (.int rz))) (Iz, Jz, sm_rf t d))  : sm_W sm_sh X (sm_C sm_sh X sm_P D) me_302 Q (0, [some (.ref 0), some (.int x1), some (.ref 96), none], [], 0, 0) (I, J, sm_rf t d) := by
  unfold F_Law_gone at h
  rcases ht with rfl | rfl
  · skip
    refine sm_W.run (sm_C_mono D) 4 (G := True) (fr' := (4, [some (.ref 0), some (.int x1), some (.ref 96), none], [.int x1, .ref 0, .int (0 : Int32), .ref 96], 0, 0)) (M' := (I, J, sm_rf 21 d)) rfl trivial ?_
    rcases sd_t2_go h with ⟨r1, I2, hc, h⟩ | ⟨r1, I2, hc, h⟩
    · refine sm_W.cal (sm_C_mono D) (y := 148) (as := [.ref 0, .int x1]) (fr' := (5, [some (.ref 0), some (.int x1), some (.ref 96), none], [.int (0 : Int32), .ref 96], 1, 6)) rfl (T_VM_gone (by omega) (by decide) hc (fun _ e => ?_) (fun _ e => by cases e))
      cases e
      show sm_W sm_sh X (sm_C sm_sh X sm_P D) me_302 Q (5, [some (.ref 0), some (.int x1), some (.ref 96), none], [.int r1, .int (0 : Int32), .ref 96], 1, 6) (I2, J, sm_rf 21 d)
      obtain ⟨g3, h⟩ := sd_gu_go h
      refine sm_W.runL (sm_C_mono D) 2 (G := sm_in (0 : Int32) 1 = true ∧ True) (e := (sd_upJ J 96 0 (Int32.toInt64 r1))) (fr' := fun _ => (7, [some (.ref 0), some (.int x1), some (.ref 96), none], [], 1, 6)) (M' := fun J4 => (I2, J4, sm_rf 21 d)) rfl h ⟨g3, trivial⟩ (fun J4 h => ?_)
      refine sm_W.run (sm_C_mono D) 2 (G := True) (fr' := (12, [some (.ref 0), some (.int x1), some (.ref 96), none], [.int (0 : Int32)], 1, 6)) (M' := (I2, J4, sm_rf 21 d)) rfl trivial ?_
      cases h
      exact sm_W.ret (sm_C_mono D) rfl hQ
    · refine sm_W.cal (sm_C_mono D) (y := 148) (as := [.ref 0, .int x1]) (fr' := (5, [some (.ref 0), some (.int x1), some (.ref 96), none], [.int (0 : Int32), .ref 96], 1, 6)) rfl (T_VM_gone (by omega) (by decide) hc (fun _ e => by cases e) (fun _ e => ?_))
      cases e
      rcases sd_if_go h with ⟨he, h⟩ | ⟨he, h⟩
      · subst he
        show sm_W sm_sh X (sm_C sm_sh X sm_P D) me_302 Q (9, [some (.ref 0), some (.int x1), some (.ref 96), none], [], 1, 6) (I2, J, sm_rf 21 d)
        refine sm_W.run (sm_C_mono D) 1 (G := True) (fr' := (10, [some (.ref 0), some (.int x1), some (.ref 96), none], [.int (1 : Int32)], 1, 6)) (M' := (I2, J, sm_rf 21 d)) rfl trivial ?_
        cases h
        exact sm_W.ret (sm_C_mono D) rfl hQ
      cases h
  · skip
    refine sm_W.run (sm_C_mono D) 4 (G := True) (fr' := (4, [some (.ref 0), some (.int x1), some (.ref 96), none], [.int x1, .ref 0, .int (0 : Int32), .ref 96], 0, 0)) (M' := (I, J, sm_rf 41 d)) rfl trivial ?_
    rcases sd_t2_go h with ⟨r1, I2, hc, h⟩ | ⟨r1, I2, hc, h⟩
    · refine sm_W.cal (sm_C_mono D) (y := 148) (as := [.ref 0, .int x1]) (fr' := (5, [some (.ref 0), some (.int x1), some (.ref 96), none], [.int (0 : Int32), .ref 96], 1, 6)) rfl (T_VM_gone (by omega) (by decide) hc (fun _ e => ?_) (fun _ e => by cases e))
      cases e
      show sm_W sm_sh X (sm_C sm_sh X sm_P D) me_302 Q (5, [some (.ref 0), some (.int x1), some (.ref 96), none], [.int r1, .int (0 : Int32), .ref 96], 1, 6) (I2, J, sm_rf 41 d)
      obtain ⟨g3, h⟩ := sd_gu_go h
      refine sm_W.runL (sm_C_mono D) 2 (G := sm_in (0 : Int32) 1 = true ∧ True) (e := (sd_upJ J 96 0 (Int32.toInt64 r1))) (fr' := fun _ => (7, [some (.ref 0), some (.int x1), some (.ref 96), none], [], 1, 6)) (M' := fun J4 => (I2, J4, sm_rf 41 d)) rfl h ⟨g3, trivial⟩ (fun J4 h => ?_)
      refine sm_W.run (sm_C_mono D) 2 (G := True) (fr' := (12, [some (.ref 0), some (.int x1), some (.ref 96), none], [.int (0 : Int32)], 1, 6)) (M' := (I2, J4, sm_rf 41 d)) rfl trivial ?_
      cases h
      exact sm_W.ret (sm_C_mono D) rfl hQ
    · refine sm_W.cal (sm_C_mono D) (y := 148) (as := [.ref 0, .int x1]) (fr' := (5, [some (.ref 0), some (.int x1), some (.ref 96), none], [.int (0 : Int32), .ref 96], 1, 6)) rfl (T_VM_gone (by omega) (by decide) hc (fun _ e => by cases e) (fun _ e => ?_))
      cases e
      rcases sd_if_go h with ⟨he, h⟩ | ⟨he, h⟩
      · subst he
        show sm_W sm_sh X (sm_C sm_sh X sm_P D) me_302 Q (9, [some (.ref 0), some (.int x1), some (.ref 96), none], [], 1, 6) (I2, J, sm_rf 41 d)
        refine sm_W.run (sm_C_mono D) 1 (G := True) (fr' := (10, [some (.ref 0), some (.int x1), some (.ref 96), none], [.int (1 : Int32)], 1, 6)) (M' := (I2, J, sm_rf 41 d)) rfl trivial ?_
        cases h
        exact sm_W.ret (sm_C_mono D) rfl hQ
      cases h
theorem T_Law_gone {X : Nat × (Nat → Int32)} {t d D : Nat} {Q : sm_Q} {I : sm_MI} {J : sm_MJ} {x1 : Int32} {rz : Int32} {Iz : sm_MI} {Jz : sm_MJ}
    (hD : 8 ≤ D) (ht : t = 21 ∨ t = 41) (h : F_Law_gone t x1 I J = some (rz, Iz, Jz)) (hQ : Q (.inl (some (.int rz))) (Iz, Jz, sm_rf t d)) : sm_C sm_sh X sm_P D 302 [.ref 0, .int x1, .ref 96] (I, J, sm_rf t d) Q := by
  cases D with
  | zero => omega
  | succ D => exact sm_C.of (me := me_302) (L := [some (.ref 0), some (.int x1), some (.ref 96), none]) rfl rfl rfl (sm_W.forget (L' := [some (.ref 0), some (.int x1), some (.ref 96), none]) ⟨rfl, ⟨rfl, ⟨rfl, trivial⟩⟩⟩ (G_Law_gone (by omega) ht h hQ))
-- 303 Law_rows
noncomputable def F_Law_rows (t : Nat) (x1 : Int32) (I : sm_MI) (J : sm_MJ) : Option (Int32 × sm_MJ) :=
  sd_t1 (F_VM_rows t x1 I) (fun r1 =>
    sd_gu (sm_in (0 : Int32) 1 = true) <|
    sd_lt (sd_upJ J 96 0 (Int32.toInt64 r1)) fun J3 =>
    some ((0 : Int32), J3))
    (fun r1 => if r1 = 1 then
    some ((1 : Int32), J)
  else none)
theorem G_Law_rows {X : Nat × (Nat → Int32)} {t d D : Nat} {Q : sm_Q} {I : sm_MI} {J : sm_MJ} {x1 : Int32} {rz : Int32} {Jz : sm_MJ}
    (hD : 2 ≤ D) (ht : t = 21 ∨ t = 41) (h : F_Law_rows t x1 I J = some (rz, Jz)) (hQ : Q (.inl (some (.int rz))) (I, Jz, sm_rf t d))  : sm_W sm_sh X (sm_C sm_sh X sm_P D) me_303 Q (0, [some (.ref 0), some (.int x1), some (.ref 96), none], [], 0, 0) (I, J, sm_rf t d) := by
  unfold F_Law_rows at h
  rcases ht with rfl | rfl
  · skip
    refine sm_W.run (sm_C_mono D) 4 (G := True) (fr' := (4, [some (.ref 0), some (.int x1), some (.ref 96), none], [.int x1, .ref 0, .int (0 : Int32), .ref 96], 0, 0)) (M' := (I, J, sm_rf 21 d)) rfl trivial ?_
    rcases sd_t1_go h with ⟨r1, hc, h⟩ | ⟨r1, hc, h⟩
    · refine sm_W.cal (sm_C_mono D) (y := 112) (as := [.ref 0, .int x1]) (fr' := (5, [some (.ref 0), some (.int x1), some (.ref 96), none], [.int (0 : Int32), .ref 96], 1, 6)) rfl (T_VM_rows (by omega) (by decide) hc (fun _ e => ?_) (fun _ e => by cases e))
      cases e
      show sm_W sm_sh X (sm_C sm_sh X sm_P D) me_303 Q (5, [some (.ref 0), some (.int x1), some (.ref 96), none], [.int r1, .int (0 : Int32), .ref 96], 1, 6) (I, J, sm_rf 21 d)
      obtain ⟨g2, h⟩ := sd_gu_go h
      refine sm_W.runL (sm_C_mono D) 2 (G := sm_in (0 : Int32) 1 = true ∧ True) (e := (sd_upJ J 96 0 (Int32.toInt64 r1))) (fr' := fun _ => (7, [some (.ref 0), some (.int x1), some (.ref 96), none], [], 1, 6)) (M' := fun J3 => (I, J3, sm_rf 21 d)) rfl h ⟨g2, trivial⟩ (fun J3 h => ?_)
      refine sm_W.run (sm_C_mono D) 2 (G := True) (fr' := (12, [some (.ref 0), some (.int x1), some (.ref 96), none], [.int (0 : Int32)], 1, 6)) (M' := (I, J3, sm_rf 21 d)) rfl trivial ?_
      cases h
      exact sm_W.ret (sm_C_mono D) rfl hQ
    · refine sm_W.cal (sm_C_mono D) (y := 112) (as := [.ref 0, .int x1]) (fr' := (5, [some (.ref 0), some (.int x1), some (.ref 96), none], [.int (0 : Int32), .ref 96], 1, 6)) rfl (T_VM_rows (by omega) (by decide) hc (fun _ e => by cases e) (fun _ e => ?_))
      cases e
      rcases sd_if_go h with ⟨he, h⟩ | ⟨he, h⟩
      · subst he
        show sm_W sm_sh X (sm_C sm_sh X sm_P D) me_303 Q (9, [some (.ref 0), some (.int x1), some (.ref 96), none], [], 1, 6) (I, J, sm_rf 21 d)
        refine sm_W.run (sm_C_mono D) 1 (G := True) (fr' := (10, [some (.ref 0), some (.int x1), some (.ref 96), none], [.int (1 : Int32)], 1, 6)) (M' := (I, J, sm_rf 21 d)) rfl trivial ?_
        cases h
        exact sm_W.ret (sm_C_mono D) rfl hQ
      cases h
  · skip
    refine sm_W.run (sm_C_mono D) 4 (G := True) (fr' := (4, [some (.ref 0), some (.int x1), some (.ref 96), none], [.int x1, .ref 0, .int (0 : Int32), .ref 96], 0, 0)) (M' := (I, J, sm_rf 41 d)) rfl trivial ?_
    rcases sd_t1_go h with ⟨r1, hc, h⟩ | ⟨r1, hc, h⟩
    · refine sm_W.cal (sm_C_mono D) (y := 112) (as := [.ref 0, .int x1]) (fr' := (5, [some (.ref 0), some (.int x1), some (.ref 96), none], [.int (0 : Int32), .ref 96], 1, 6)) rfl (T_VM_rows (by omega) (by decide) hc (fun _ e => ?_) (fun _ e => by cases e))
      cases e
      show sm_W sm_sh X (sm_C sm_sh X sm_P D) me_303 Q (5, [some (.ref 0), some (.int x1), some (.ref 96), none], [.int r1, .int (0 : Int32), .ref 96], 1, 6) (I, J, sm_rf 41 d)
      obtain ⟨g2, h⟩ := sd_gu_go h
      refine sm_W.runL (sm_C_mono D) 2 (G := sm_in (0 : Int32) 1 = true ∧ True) (e := (sd_upJ J 96 0 (Int32.toInt64 r1))) (fr' := fun _ => (7, [some (.ref 0), some (.int x1), some (.ref 96), none], [], 1, 6)) (M' := fun J3 => (I, J3, sm_rf 41 d)) rfl h ⟨g2, trivial⟩ (fun J3 h => ?_)
      refine sm_W.run (sm_C_mono D) 2 (G := True) (fr' := (12, [some (.ref 0), some (.int x1), some (.ref 96), none], [.int (0 : Int32)], 1, 6)) (M' := (I, J3, sm_rf 41 d)) rfl trivial ?_
      cases h
      exact sm_W.ret (sm_C_mono D) rfl hQ
    · refine sm_W.cal (sm_C_mono D) (y := 112) (as := [.ref 0, .int x1]) (fr' := (5, [some (.ref 0), some (.int x1), some (.ref 96), none], [.int (0 : Int32), .ref 96], 1, 6)) rfl (T_VM_rows (by omega) (by decide) hc (fun _ e => by cases e) (fun _ e => ?_))
      cases e
      rcases sd_if_go h with ⟨he, h⟩ | ⟨he, h⟩
      · subst he
        show sm_W sm_sh X (sm_C sm_sh X sm_P D) me_303 Q (9, [some (.ref 0), some (.int x1), some (.ref 96), none], [], 1, 6) (I, J, sm_rf 41 d)
        refine sm_W.run (sm_C_mono D) 1 (G := True) (fr' := (10, [some (.ref 0), some (.int x1), some (.ref 96), none], [.int (1 : Int32)], 1, 6)) (M' := (I, J, sm_rf 41 d)) rfl trivial ?_
        cases h
        exact sm_W.ret (sm_C_mono D) rfl hQ
      cases h
theorem T_Law_rows {X : Nat × (Nat → Int32)} {t d D : Nat} {Q : sm_Q} {I : sm_MI} {J : sm_MJ} {x1 : Int32} {rz : Int32} {Jz : sm_MJ}
    (hD : 3 ≤ D) (ht : t = 21 ∨ t = 41) (h : F_Law_rows t x1 I J = some (rz, Jz)) (hQ : Q (.inl (some (.int rz))) (I, Jz, sm_rf t d)) : sm_C sm_sh X sm_P D 303 [.ref 0, .int x1, .ref 96] (I, J, sm_rf t d) Q := by
  cases D with
  | zero => omega
  | succ D => exact sm_C.of (me := me_303) (L := [some (.ref 0), some (.int x1), some (.ref 96), none]) rfl rfl rfl (sm_W.forget (L' := [some (.ref 0), some (.int x1), some (.ref 96), none]) ⟨rfl, ⟨rfl, ⟨rfl, trivial⟩⟩⟩ (G_Law_rows (by omega) ht h hQ))
