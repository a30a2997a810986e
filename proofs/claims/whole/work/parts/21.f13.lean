/-! ===== printed by wip/gen/emit_parts.py: what the methods compute ===== -/
-- 195 Mo_undo
noncomputable def F_Mo_undo_16B (k16 : Int32 → sm_MI → Option (Int32 × sm_MI)) (x1 : Int32) (I : sm_MI) : Option (Int32 × sm_MI) :=
  if (16 : Int32) ≤ x1 then
    some ((I 61 50), I)
  else
    sd_gu (sm_in (((16 : Int32) * (I 61 50)) + x1) 640 = true) <|
    sd_gu (sm_in x1 16 = true) <|
    sd_lt (sd_up I 86 (Int32.toNatClampNeg x1) (I 88 (Int32.toNatClampNeg (((16 : Int32) * (I 61 50)) + x1)))) fun I3 =>
    k16 (x1 + (1 : Int32)) I3
noncomputable def F_Mo_undo_16  (n : Nat) : Int32 → sm_MI → Option (Int32 × sm_MI) :=
  sd_fix (fun k x1 I => F_Mo_undo_16B k x1 I) (fun _ _ => none) n
noncomputable def F_Mo_undo (I : sm_MI) : Option (Int32 × sm_MI) :=
  sd_lt (sd_up I 61 0 (0 : Int32)) fun I1 =>
  if ¬ (I1 61 50) = 0 then
    sd_lt (sd_up I1 61 50 ((I1 61 50) - (1 : Int32))) fun I2 =>
    F_Mo_undo_16 sd_fu (0 : Int32) I2
  else
    some ((-1 : Int32), I1)
theorem G_Mo_undo_16B {X : Nat × (Nat → Int32)} {t d D : Nat} {Q : sm_Q} {I : sm_MI} {J : sm_MJ} {k16 : Int32 → sm_MI → Option (Int32 × sm_MI)} {x1 : Int32} {rz : Int32} {Iz : sm_MI}
    (hD : 0 ≤ D) (h : F_Mo_undo_16B k16 x1 I = some (rz, Iz)) (hQ : Q (.inl (some (.int rz))) (Iz, J, sm_rf t d)) (hk16 : ∀ (x1 : Int32) (I : sm_MI), k16 x1 I = some (rz, Iz) → sm_W sm_sh X (sm_C sm_sh X sm_P D) me_195 Q (16, [some (.ref 61), some (.int x1)], [], 0, 0) (I, J, sm_rf t d)) : sm_W sm_sh X (sm_C sm_sh X sm_P D) me_195 Q (16, [some (.ref 61), some (.int x1)], [], 0, 0) (I, J, sm_rf t d) := by
  unfold F_Mo_undo_16B at h
  refine sm_W.run (sm_C_mono D) 3 (G := True) (fr' := (if decide ((16 : Int32) ≤ x1) = true then 34 else 19, [some (.ref 61), some (.int x1)], [], 0, 0)) (M' := (I, J, sm_rf t d)) rfl trivial (sm_W.iteD h (fun hc h => ?_) (fun hc h => ?_))
  · refine sm_W.run (sm_C_mono D) 2 (G := True) (fr' := (36, [some (.ref 61), some (.int x1)], [.int (I 61 50)], 0, 0)) (M' := (I, J, sm_rf t d)) rfl trivial ?_
    cases h
    exact sm_W.ret (sm_C_mono D) rfl hQ
  · obtain ⟨g1, h⟩ := sd_gu_go h
    obtain ⟨g2, h⟩ := sd_gu_go h
    refine sm_W.runL (sm_C_mono D) 13 (G := sm_in (((16 : Int32) * (I 61 50)) + x1) 640 = true ∧ sm_in x1 16 = true ∧ True) (e := (sd_up I 86 (Int32.toNatClampNeg x1) (I 88 (Int32.toNatClampNeg (((16 : Int32) * (I 61 50)) + x1))))) (fr' := fun _ => (32, [some (.ref 61), some (.int x1)], [], 0, 0)) (M' := fun I3 => (I3, J, sm_rf t d)) rfl h ⟨g1, g2, trivial⟩ (fun I3 h => ?_)
    refine sm_W.run (sm_C_mono D) 2 (G := True) (fr' := (16, [some (.ref 61), some (.int (x1 + (1 : Int32)))], [], 0, 0)) (M' := (I3, J, sm_rf t d)) rfl trivial ?_
    exact (hk16 _ _ h)
theorem G_Mo_undo_16 {X : Nat × (Nat → Int32)} {t d D : Nat} {Q : sm_Q} {J : sm_MJ} {rz : Int32} {Iz : sm_MI}
    (hD : 0 ≤ D) (hQ : Q (.inl (some (.int rz))) (Iz, J, sm_rf t d))  : ∀ (n : Nat) (x1 : Int32) (I : sm_MI), F_Mo_undo_16 n x1 I = some (rz, Iz) → sm_W sm_sh X (sm_C sm_sh X sm_P D) me_195 Q (16, [some (.ref 61), some (.int x1)], [], 0, 0) (I, J, sm_rf t d) := by
  intro n
  induction n with
  | zero => intro x1 I h; cases (show (none : Option (Int32 × sm_MI)) = some (rz, Iz) from h)
  | succ n ih => intro x1 I h; exact G_Mo_undo_16B hD (show F_Mo_undo_16B (F_Mo_undo_16 n) x1 I = some (rz, Iz) from h) hQ  ih
theorem G_Mo_undo {X : Nat × (Nat → Int32)} {t d D : Nat} {Q : sm_Q} {I : sm_MI} {J : sm_MJ} {rz : Int32} {Iz : sm_MI}
    (hD : 0 ≤ D) (h : F_Mo_undo I = some (rz, Iz)) (hQ : Q (.inl (some (.int rz))) (Iz, J, sm_rf t d))  : sm_W sm_sh X (sm_C sm_sh X sm_P D) me_195 Q (0, [some (.ref 61), none], [], 0, 0) (I, J, sm_rf t d) := by
  unfold F_Mo_undo at h
  refine sm_W.runL (sm_C_mono D) 3 (G := True) (e := (sd_up I 61 0 (0 : Int32))) (fr' := fun _ => (3, [some (.ref 61), none], [], 0, 0)) (M' := fun I1 => (I1, J, sm_rf t d)) rfl h trivial (fun I1 h => ?_)
  refine sm_W.run (sm_C_mono D) 3 (G := True) (fr' := (if decide (¬ (I1 61 50) = 0) = true then 8 else 6, [some (.ref 61), none], [], 0, 0)) (M' := (I1, J, sm_rf t d)) rfl trivial (sm_W.iteD h (fun hc h => ?_) (fun hc h => ?_))
  · refine sm_W.runL (sm_C_mono D) 6 (G := True) (e := (sd_up I1 61 50 ((I1 61 50) - (1 : Int32)))) (fr' := fun _ => (14, [some (.ref 61), none], [], 0, 0)) (M' := fun I2 => (I2, J, sm_rf t d)) rfl h trivial (fun I2 h => ?_)
    refine sm_W.run (sm_C_mono D) 2 (G := True) (fr' := (16, [some (.ref 61), some (.int (0 : Int32))], [], 0, 0)) (M' := (I2, J, sm_rf t d)) rfl trivial ?_
    exact (G_Mo_undo_16 hD hQ sd_fu _ _ h)
  · refine sm_W.run (sm_C_mono D) 1 (G := True) (fr' := (7, [some (.ref 61), none], [.int (-1 : Int32)], 0, 0)) (M' := (I1, J, sm_rf t d)) rfl trivial ?_
    cases h
    exact sm_W.ret (sm_C_mono D) rfl hQ
theorem T_Mo_undo {X : Nat × (Nat → Int32)} {t d D : Nat} {Q : sm_Q} {I : sm_MI} {J : sm_MJ} {rz : Int32} {Iz : sm_MI}
    (hD : 1 ≤ D) (h : F_Mo_undo I = some (rz, Iz)) (hQ : Q (.inl (some (.int rz))) (Iz, J, sm_rf t d)) : sm_C sm_sh X sm_P D 195 [.ref 61] (I, J, sm_rf t d) Q := by
  cases D with
  | zero => omega
  | succ D => exact sm_C.of (me := me_195) (L := [some (.ref 61), none]) rfl rfl rfl (sm_W.forget (L' := [some (.ref 61), none]) ⟨rfl, trivial⟩ (G_Mo_undo (by omega) h hQ))
-- 196 Mo_areSo
noncomputable def F_Mo_areSo_4B (p1 : Nat) (k4 : Int32 → Int32 → Int32 → Option (Int32)) (x2 : Int32) (x3 : Int32) (x4 : Int32) (I : sm_MI) : Option (Int32) :=
  if (I 61 1) ≤ x4 then
    some (x3)
  else
    sd_gu (sm_in x4 16 = true) <|
    if ¬ (I p1 (Int32.toNatClampNeg x4)) = x2 then
      sd_lt (x3 ||| (0 : Int32)) fun a2 =>
      k4 x2 a2 (x4 + (1 : Int32))
    else
      sd_lt (x3 ||| ((1 : Int32) <<< (x4 &&& 31))) fun a3 =>
      k4 x2 a3 (x4 + (1 : Int32))
noncomputable def F_Mo_areSo_4 (p1 : Nat) (I : sm_MI) (n : Nat) : Int32 → Int32 → Int32 → Option (Int32) :=
  sd_fix (fun k x2 x3 x4 => F_Mo_areSo_4B p1 k x2 x3 x4 I) (fun _ _ _ => none) n
noncomputable def F_Mo_areSo (p1 : Nat) (x2 : Int32) (I : sm_MI) : Option (Int32) :=
  F_Mo_areSo_4 p1 I sd_fu x2 (0 : Int32) (0 : Int32)
theorem G_Mo_areSo_4B {X : Nat × (Nat → Int32)} {t d D : Nat} {Q : sm_Q} {I : sm_MI} {J : sm_MJ} {p1 : Nat} {k4 : Int32 → Int32 → Int32 → Option (Int32)} {x2 : Int32} {x3 : Int32} {x4 : Int32} {rz : Int32}
    (hD : 0 ≤ D) (hp : (p1 = 86) ∨ (p1 = 87)) (h : F_Mo_areSo_4B p1 k4 x2 x3 x4 I = some (rz)) (hQ : Q (.inl (some (.int rz))) (I, J, sm_rf t d)) (hk4 : ∀ (x2 : Int32) (x3 : Int32) (x4 : Int32), k4 x2 x3 x4 = some (rz) → sm_W sm_sh X (sm_C sm_sh X sm_P D) me_196 Q (4, [some (.ref 61), some (.ref p1), some (.int x2), some (.int x3), some (.int x4)], [], 0, 0) (I, J, sm_rf t d)) : sm_W sm_sh X (sm_C sm_sh X sm_P D) me_196 Q (4, [some (.ref 61), some (.ref p1), some (.int x2), some (.int x3), some (.int x4)], [], 0, 0) (I, J, sm_rf t d) := by
  unfold F_Mo_areSo_4B at h
  rcases hp with rfl | rfl
  · skip
    refine sm_W.run (sm_C_mono D) 4 (G := True) (fr' := (if decide ((I 61 1) ≤ x4) = true then 23 else 8, [some (.ref 61), some (.ref 86), some (.int x2), some (.int x3), some (.int x4)], [], 0, 0)) (M' := (I, J, sm_rf t d)) rfl trivial (sm_W.iteD h (fun hc h => ?_) (fun hc h => ?_))
    · refine sm_W.run (sm_C_mono D) 1 (G := True) (fr' := (24, [some (.ref 61), some (.ref 86), some (.int x2), some (.int x3), some (.int x4)], [.int x3], 0, 0)) (M' := (I, J, sm_rf t d)) rfl trivial ?_
      cases h
      exact sm_W.ret (sm_C_mono D) rfl hQ
    · obtain ⟨g1, h⟩ := sd_gu_go h
      refine sm_W.run (sm_C_mono D) 6 (G := sm_in x4 16 = true ∧ True) (fr' := (if decide (¬ (I 86 (Int32.toNatClampNeg x4)) = x2) = true then 18 else 14, [some (.ref 61), some (.ref 86), some (.int x2), some (.int x3), some (.int x4)], [.int x3], 0, 0)) (M' := (I, J, sm_rf t d)) rfl ⟨g1, trivial⟩ (sm_W.iteD h (fun hc h => ?_) (fun hc h => ?_))
      · refine sm_W.runL (sm_C_mono D) 3 (G := True) (e := (x3 ||| (0 : Int32))) (fr' := fun a2 => (21, [some (.ref 61), some (.ref 86), some (.int x2), some (.int a2), some (.int x4)], [], 0, 0)) (M' := fun _ => (I, J, sm_rf t d)) rfl h trivial (fun a2 h => ?_)
        refine sm_W.run (sm_C_mono D) 2 (G := True) (fr' := (4, [some (.ref 61), some (.ref 86), some (.int x2), some (.int a2), some (.int (x4 + (1 : Int32)))], [], 0, 0)) (M' := (I, J, sm_rf t d)) rfl trivial ?_
        exact (hk4 _ _ _ h)
      · refine sm_W.runL (sm_C_mono D) 6 (G := True) (e := (x3 ||| ((1 : Int32) <<< (x4 &&& 31)))) (fr' := fun a3 => (21, [some (.ref 61), some (.ref 86), some (.int x2), some (.int a3), some (.int x4)], [], 0, 0)) (M' := fun _ => (I, J, sm_rf t d)) rfl h trivial (fun a3 h => ?_)
        refine sm_W.run (sm_C_mono D) 2 (G := True) (fr' := (4, [some (.ref 61), some (.ref 86), some (.int x2), some (.int a3), some (.int (x4 + (1 : Int32)))], [], 0, 0)) (M' := (I, J, sm_rf t d)) rfl trivial ?_
        exact (hk4 _ _ _ h)
  · skip
    refine sm_W.run (sm_C_mono D) 4 (G := True) (fr' := (if decide ((I 61 1) ≤ x4) = true then 23 else 8, [some (.ref 61), some (.ref 87), some (.int x2), some (.int x3), some (.int x4)], [], 0, 0)) (M' := (I, J, sm_rf t d)) rfl trivial (sm_W.iteD h (fun hc h => ?_) (fun hc h => ?_))
    · refine sm_W.run (sm_C_mono D) 1 (G := True) (fr' := (24, [some (.ref 61), some (.ref 87), some (.int x2), some (.int x3), some (.int x4)], [.int x3], 0, 0)) (M' := (I, J, sm_rf t d)) rfl trivial ?_
      cases h
      exact sm_W.ret (sm_C_mono D) rfl hQ
    · obtain ⟨g1, h⟩ := sd_gu_go h
      refine sm_W.run (sm_C_mono D) 6 (G := sm_in x4 16 = true ∧ True) (fr' := (if decide (¬ (I 87 (Int32.toNatClampNeg x4)) = x2) = true then 18 else 14, [some (.ref 61), some (.ref 87), some (.int x2), some (.int x3), some (.int x4)], [.int x3], 0, 0)) (M' := (I, J, sm_rf t d)) rfl ⟨g1, trivial⟩ (sm_W.iteD h (fun hc h => ?_) (fun hc h => ?_))
      · refine sm_W.runL (sm_C_mono D) 3 (G := True) (e := (x3 ||| (0 : Int32))) (fr' := fun a2 => (21, [some (.ref 61), some (.ref 87), some (.int x2), some (.int a2), some (.int x4)], [], 0, 0)) (M' := fun _ => (I, J, sm_rf t d)) rfl h trivial (fun a2 h => ?_)
        refine sm_W.run (sm_C_mono D) 2 (G := True) (fr' := (4, [some (.ref 61), some (.ref 87), some (.int x2), some (.int a2), some (.int (x4 + (1 : Int32)))], [], 0, 0)) (M' := (I, J, sm_rf t d)) rfl trivial ?_
        exact (hk4 _ _ _ h)
      · refine sm_W.runL (sm_C_mono D) 6 (G := True) (e := (x3 ||| ((1 : Int32) <<< (x4 &&& 31)))) (fr' := fun a3 => (21, [some (.ref 61), some (.ref 87), some (.int x2), some (.int a3), some (.int x4)], [], 0, 0)) (M' := fun _ => (I, J, sm_rf t d)) rfl h trivial (fun a3 h => ?_)
        refine sm_W.run (sm_C_mono D) 2 (G := True) (fr' := (4, [some (.ref 61), some (.ref 87), some (.int x2), some (.int a3), some (.int (x4 + (1 : Int32)))], [], 0, 0)) (M' := (I, J, sm_rf t d)) rfl trivial ?_
        exact (hk4 _ _ _ h)
theorem G_Mo_areSo_4 {X : Nat × (Nat → Int32)} {t d D : Nat} {Q : sm_Q} {I : sm_MI} {J : sm_MJ} {p1 : Nat} {rz : Int32}
    (hD : 0 ≤ D) (hp : (p1 = 86) ∨ (p1 = 87)) (hQ : Q (.inl (some (.int rz))) (I, J, sm_rf t d))  : ∀ (n : Nat) (x2 : Int32) (x3 : Int32) (x4 : Int32), F_Mo_areSo_4 p1 I n x2 x3 x4 = some (rz) → sm_W sm_sh X (sm_C sm_sh X sm_P D) me_196 Q (4, [some (.ref 61), some (.ref p1), some (.int x2), some (.int x3), some (.int x4)], [], 0, 0) (I, J, sm_rf t d) := by
  intro n
  induction n with
  | zero => intro x2 x3 x4 h; cases (show (none : Option (Int32)) = some (rz) from h)
  | succ n ih => intro x2 x3 x4 h; exact G_Mo_areSo_4B hD hp (show F_Mo_areSo_4B p1 (F_Mo_areSo_4 p1 I n) x2 x3 x4 I = some (rz) from h) hQ  ih
theorem G_Mo_areSo {X : Nat × (Nat → Int32)} {t d D : Nat} {Q : sm_Q} {I : sm_MI} {J : sm_MJ} {p1 : Nat} {x2 : Int32} {rz : Int32}
    (hD : 0 ≤ D) (hp : (p1 = 86) ∨ (p1 = 87)) (h : F_Mo_areSo p1 x2 I = some (rz)) (hQ : Q (.inl (some (.int rz))) (I, J, sm_rf t d))  : sm_W sm_sh X (sm_C sm_sh X sm_P D) me_196 Q (0, [some (.ref 61), some (.ref p1), some (.int x2), none, none], [], 0, 0) (I, J, sm_rf t d) := by
  unfold F_Mo_areSo at h
  rcases hp with rfl | rfl
  · skip
    refine sm_W.run (sm_C_mono D) 4 (G := True) (fr' := (4, [some (.ref 61), some (.ref 86), some (.int x2), some (.int (0 : Int32)), some (.int (0 : Int32))], [], 0, 0)) (M' := (I, J, sm_rf t d)) rfl trivial ?_
    exact (G_Mo_areSo_4 hD (by decide) hQ sd_fu _ _ _ h)
  · skip
    refine sm_W.run (sm_C_mono D) 4 (G := True) (fr' := (4, [some (.ref 61), some (.ref 87), some (.int x2), some (.int (0 : Int32)), some (.int (0 : Int32))], [], 0, 0)) (M' := (I, J, sm_rf t d)) rfl trivial ?_
    exact (G_Mo_areSo_4 hD (by decide) hQ sd_fu _ _ _ h)
theorem T_Mo_areSo {X : Nat × (Nat → Int32)} {t d D : Nat} {Q : sm_Q} {I : sm_MI} {J : sm_MJ} {p1 : Nat} {x2 : Int32} {rz : Int32}
    (hD : 1 ≤ D) (hp : (p1 = 86) ∨ (p1 = 87)) (h : F_Mo_areSo p1 x2 I = some (rz)) (hQ : Q (.inl (some (.int rz))) (I, J, sm_rf t d)) : sm_C sm_sh X sm_P D 196 [.ref 61, .ref p1, .int x2] (I, J, sm_rf t d) Q := by
  cases D with
  | zero => omega
  | succ D => exact sm_C.of (me := me_196) (L := [some (.ref 61), some (.ref p1), some (.int x2), none, none]) rfl rfl rfl (sm_W.forget (L' := [some (.ref 61), some (.ref p1), some (.int x2), none, none]) ⟨rfl, ⟨rfl, ⟨rfl, trivial⟩⟩⟩ (G_Mo_areSo (by omega) hp h hQ))
-- 197 Mo_ofSide
noncomputable def F_Mo_ofSide_4B (k4 : Int32 → Int32 → Int32 → Option (Int32)) (x1 : Int32) (x2 : Int32) (x3 : Int32) (I : sm_MI) : Option (Int32) :=
  if (I 61 1) ≤ x3 then
    some (x2)
  else
    sd_gu (sm_in x3 14 = true) <|
    if ¬ (I 62 (Int32.toNatClampNeg x3)) = x1 then
      sd_lt (x2 ||| (0 : Int32)) fun a2 =>
      k4 x1 a2 (x3 + (1 : Int32))
    else
      sd_lt (x2 ||| ((1 : Int32) <<< (x3 &&& 31))) fun a3 =>
      k4 x1 a3 (x3 + (1 : Int32))
noncomputable def F_Mo_ofSide_4 (I : sm_MI) (n : Nat) : Int32 → Int32 → Int32 → Option (Int32) :=
  sd_fix (fun k x1 x2 x3 => F_Mo_ofSide_4B k x1 x2 x3 I) (fun _ _ _ => none) n
noncomputable def F_Mo_ofSide (x1 : Int32) (I : sm_MI) : Option (Int32) :=
  F_Mo_ofSide_4 I sd_fu x1 (0 : Int32) (0 : Int32)
theorem G_Mo_ofSide_4B {X : Nat × (Nat → Int32)} {t d D : Nat} {Q : sm_Q} {I : sm_MI} {J : sm_MJ} {k4 : Int32 → Int32 → Int32 → Option (Int32)} {x1 : Int32} {x2 : Int32} {x3 : Int32} {rz : Int32}
    (hD : 0 ≤ D) (h : F_Mo_ofSide_4B k4 x1 x2 x3 I = some (rz)) (hQ : Q (.inl (some (.int rz))) (I, J, sm_rf t d)) (hk4 : ∀ (x1 : Int32) (x2 : Int32) (x3 : Int32), k4 x1 x2 x3 = some (rz) → sm_W sm_sh X (sm_C sm_sh X sm_P D) me_197 Q (4, [some (.ref 61), some (.int x1), some (.int x2), some (.int x3)], [], 0, 0) (I, J, sm_rf t d)) : sm_W sm_sh X (sm_C sm_sh X sm_P D) me_197 Q (4, [some (.ref 61), some (.int x1), some (.int x2), some (.int x3)], [], 0, 0) (I, J, sm_rf t d) := by
  unfold F_Mo_ofSide_4B at h
  refine sm_W.run (sm_C_mono D) 4 (G := True) (fr' := (if decide ((I 61 1) ≤ x3) = true then 24 else 8, [some (.ref 61), some (.int x1), some (.int x2), some (.int x3)], [], 0, 0)) (M' := (I, J, sm_rf t d)) rfl trivial (sm_W.iteD h (fun hc h => ?_) (fun hc h => ?_))
  · refine sm_W.run (sm_C_mono D) 1 (G := True) (fr' := (25, [some (.ref 61), some (.int x1), some (.int x2), some (.int x3)], [.int x2], 0, 0)) (M' := (I, J, sm_rf t d)) rfl trivial ?_
    cases h
    exact sm_W.ret (sm_C_mono D) rfl hQ
  · obtain ⟨g1, h⟩ := sd_gu_go h
    refine sm_W.run (sm_C_mono D) 7 (G := sm_in x3 14 = true ∧ True) (fr' := (if decide (¬ (I 62 (Int32.toNatClampNeg x3)) = x1) = true then 19 else 15, [some (.ref 61), some (.int x1), some (.int x2), some (.int x3)], [.int x2], 0, 0)) (M' := (I, J, sm_rf t d)) rfl ⟨g1, trivial⟩ (sm_W.iteD h (fun hc h => ?_) (fun hc h => ?_))
    · refine sm_W.runL (sm_C_mono D) 3 (G := True) (e := (x2 ||| (0 : Int32))) (fr' := fun a2 => (22, [some (.ref 61), some (.int x1), some (.int a2), some (.int x3)], [], 0, 0)) (M' := fun _ => (I, J, sm_rf t d)) rfl h trivial (fun a2 h => ?_)
      refine sm_W.run (sm_C_mono D) 2 (G := True) (fr' := (4, [some (.ref 61), some (.int x1), some (.int a2), some (.int (x3 + (1 : Int32)))], [], 0, 0)) (M' := (I, J, sm_rf t d)) rfl trivial ?_
      exact (hk4 _ _ _ h)
    · refine sm_W.runL (sm_C_mono D) 6 (G := True) (e := (x2 ||| ((1 : Int32) <<< (x3 &&& 31)))) (fr' := fun a3 => (22, [some (.ref 61), some (.int x1), some (.int a3), some (.int x3)], [], 0, 0)) (M' := fun _ => (I, J, sm_rf t d)) rfl h trivial (fun a3 h => ?_)
      refine sm_W.run (sm_C_mono D) 2 (G := True) (fr' := (4, [some (.ref 61), some (.int x1), some (.int a3), some (.int (x3 + (1 : Int32)))], [], 0, 0)) (M' := (I, J, sm_rf t d)) rfl trivial ?_
      exact (hk4 _ _ _ h)
theorem G_Mo_ofSide_4 {X : Nat × (Nat → Int32)} {t d D : Nat} {Q : sm_Q} {I : sm_MI} {J : sm_MJ} {rz : Int32}
    (hD : 0 ≤ D) (hQ : Q (.inl (some (.int rz))) (I, J, sm_rf t d))  : ∀ (n : Nat) (x1 : Int32) (x2 : Int32) (x3 : Int32), F_Mo_ofSide_4 I n x1 x2 x3 = some (rz) → sm_W sm_sh X (sm_C sm_sh X sm_P D) me_197 Q (4, [some (.ref 61), some (.int x1), some (.int x2), some (.int x3)], [], 0, 0) (I, J, sm_rf t d) := by
  intro n
  induction n with
  | zero => intro x1 x2 x3 h; cases (show (none : Option (Int32)) = some (rz) from h)
  | succ n ih => intro x1 x2 x3 h; exact G_Mo_ofSide_4B hD (show F_Mo_ofSide_4B (F_Mo_ofSide_4 I n) x1 x2 x3 I = some (rz) from h) hQ  ih
theorem G_Mo_ofSide {X : Nat × (Nat → Int32)} {t d D : Nat} {Q : sm_Q} {I : sm_MI} {J : sm_MJ} {x1 : Int32} {rz : Int32}
    (hD : 0 ≤ D) (h : F_Mo_ofSide x1 I = some (rz)) (hQ : Q (.inl (some (.int rz))) (I, J, sm_rf t d))  : sm_W sm_sh X (sm_C sm_sh X sm_P D) me_197 Q (0, [some (.ref 61), some (.int x1), none, none], [], 0, 0) (I, J, sm_rf t d) := by
  unfold F_Mo_ofSide at h
  refine sm_W.run (sm_C_mono D) 4 (G := True) (fr' := (4, [some (.ref 61), some (.int x1), some (.int (0 : Int32)), some (.int (0 : Int32))], [], 0, 0)) (M' := (I, J, sm_rf t d)) rfl trivial ?_
  exact (G_Mo_ofSide_4 hD hQ sd_fu _ _ _ h)
theorem T_Mo_ofSide {X : Nat × (Nat → Int32)} {t d D : Nat} {Q : sm_Q} {I : sm_MI} {J : sm_MJ} {x1 : Int32} {rz : Int32}
    (hD : 1 ≤ D) (h : F_Mo_ofSide x1 I = some (rz)) (hQ : Q (.inl (some (.int rz))) (I, J, sm_rf t d)) : sm_C sm_sh X sm_P D 197 [.ref 61, .int x1] (I, J, sm_rf t d) Q := by
  cases D with
  | zero => omega
  | succ D => exact sm_C.of (me := me_197) (L := [some (.ref 61), some (.int x1), none, none]) rfl rfl rfl (sm_W.forget (L' := [some (.ref 61), some (.int x1), none, none]) ⟨rfl, ⟨rfl, trivial⟩⟩ (G_Mo_ofSide (by omega) h hQ))
-- 198 Mo_hasAll
noncomputable def F_Mo_hasAll_2B (k2 : Int32 → Int32 → Int32 → Int32 → Option (Int32)) (x1 : Int32) (x2 : Int32) (x3 : Int32) (x4 : Int32) (I : sm_MI) : Option (Int32) :=
  sd_gu (sm_in x2 20 = true) <|
  if (I 68 (Int32.toNatClampNeg x2)) ≤ x4 then
    some ((1 : Int32))
  else
    sd_gu (sm_in (((12 : Int32) * x2) + x4) 240 = true) <|
    sd_gu (sm_in x1 14 = true) <|
    sd_gu (sm_in x1 14 = true) <|
    sd_q1 (F_Mo_within ((I 69 (Int32.toNatClampNeg (((12 : Int32) * x2) + x4))) + x3) (I 64 (Int32.toNatClampNeg x1)) (I 65 (Int32.toNatClampNeg x1))) fun r5 =>
    if ¬ r5 = 0 then
      k2 x1 x2 x3 (x4 + (1 : Int32))
    else
      some ((0 : Int32))
noncomputable def F_Mo_hasAll_2 (I : sm_MI) (n : Nat) : Int32 → Int32 → Int32 → Int32 → Option (Int32) :=
  sd_fix (fun k x1 x2 x3 x4 => F_Mo_hasAll_2B k x1 x2 x3 x4 I) (fun _ _ _ _ => none) n
noncomputable def F_Mo_hasAll (x1 : Int32) (x2 : Int32) (x3 : Int32) (I : sm_MI) : Option (Int32) :=
  F_Mo_hasAll_2 I sd_fu x1 x2 x3 (0 : Int32)
theorem G_Mo_hasAll_2B {X : Nat × (Nat → Int32)} {t d D : Nat} {Q : sm_Q} {I : sm_MI} {J : sm_MJ} {k2 : Int32 → Int32 → Int32 → Int32 → Option (Int32)} {x1 : Int32} {x2 : Int32} {x3 : Int32} {x4 : Int32} {rz : Int32}
    (hD : 1 ≤ D) (h : F_Mo_hasAll_2B k2 x1 x2 x3 x4 I = some (rz)) (hQ : Q (.inl (some (.int rz))) (I, J, sm_rf t d)) (hk2 : ∀ (x1 : Int32) (x2 : Int32) (x3 : Int32) (x4 : Int32), k2 x1 x2 x3 x4 = some (rz) → sm_W sm_sh X (sm_C sm_sh X sm_P D) me_198 Q (2, [some (.ref 61), some (.int x1), some (.int x2), some (.int x3), some (.int x4)], [], 0, 0) (I, J, sm_rf t d)) : sm_W sm_sh X (sm_C sm_sh X sm_P D) me_198 Q (2, [some (.ref 61), some (.int x1), some (.int x2), some (.int x3), some (.int x4)], [], 0, 0) (I, J, sm_rf t d) := by
  unfold F_Mo_hasAll_2B at h
  obtain ⟨g1, h⟩ := sd_gu_go h
  refine sm_W.run (sm_C_mono D) 6 (G := sm_in x2 20 = true ∧ True) (fr' := (if decide ((I 68 (Int32.toNatClampNeg x2)) ≤ x4) = true then 32 else 8, [some (.ref 61), some (.int x1), some (.int x2), some (.int x3), some (.int x4)], [], 0, 0)) (M' := (I, J, sm_rf t d)) rfl ⟨g1, trivial⟩ (sm_W.iteD h (fun hc h => ?_) (fun hc h => ?_))
  · refine sm_W.run (sm_C_mono D) 1 (G := True) (fr' := (33, [some (.ref 61), some (.int x1), some (.int x2), some (.int x3), some (.int x4)], [.int (1 : Int32)], 0, 0)) (M' := (I, J, sm_rf t d)) rfl trivial ?_
    cases h
    exact sm_W.ret (sm_C_mono D) rfl hQ
  · obtain ⟨g2, h⟩ := sd_gu_go h
    obtain ⟨g3, h⟩ := sd_gu_go h
    obtain ⟨g4, h⟩ := sd_gu_go h
    refine sm_W.run (sm_C_mono D) 18 (G := sm_in (((12 : Int32) * x2) + x4) 240 = true ∧ sm_in x1 14 = true ∧ sm_in x1 14 = true ∧ True) (fr' := (26, [some (.ref 61), some (.int x1), some (.int x2), some (.int x3), some (.int x4)], [.int (I 65 (Int32.toNatClampNeg x1)), .int (I 64 (Int32.toNatClampNeg x1)), .int ((I 69 (Int32.toNatClampNeg (((12 : Int32) * x2) + x4))) + x3)], 0, 0)) (M' := (I, J, sm_rf t d)) rfl ⟨g2, g3, g4, trivial⟩ ?_
    obtain ⟨r5, hc, h⟩ := sd_q1_go h
    refine sm_W.cal (sm_C_mono D) (y := 159) (as := [.int ((I 69 (Int32.toNatClampNeg (((12 : Int32) * x2) + x4))) + x3), .int (I 64 (Int32.toNatClampNeg x1)), .int (I 65 (Int32.toNatClampNeg x1))]) (fr' := (27, [some (.ref 61), some (.int x1), some (.int x2), some (.int x3), some (.int x4)], [], 0, 0)) rfl (T_Mo_within (by omega) hc ?_)
    show sm_W sm_sh X (sm_C sm_sh X sm_P D) me_198 Q (27, [some (.ref 61), some (.int x1), some (.int x2), some (.int x3), some (.int x4)], [.int r5], 0, 0) (I, J, sm_rf t d)
    refine sm_W.run (sm_C_mono D) 1 (G := True) (fr' := (if decide (¬ r5 = 0) = true then 30 else 28, [some (.ref 61), some (.int x1), some (.int x2), some (.int x3), some (.int x4)], [], 0, 0)) (M' := (I, J, sm_rf t d)) rfl trivial (sm_W.iteD h (fun hc h => ?_) (fun hc h => ?_))
    · refine sm_W.run (sm_C_mono D) 2 (G := True) (fr' := (2, [some (.ref 61), some (.int x1), some (.int x2), some (.int x3), some (.int (x4 + (1 : Int32)))], [], 0, 0)) (M' := (I, J, sm_rf t d)) rfl trivial ?_
      exact (hk2 _ _ _ _ h)
    · refine sm_W.run (sm_C_mono D) 1 (G := True) (fr' := (29, [some (.ref 61), some (.int x1), some (.int x2), some (.int x3), some (.int x4)], [.int (0 : Int32)], 0, 0)) (M' := (I, J, sm_rf t d)) rfl trivial ?_
      cases h
      exact sm_W.ret (sm_C_mono D) rfl hQ
theorem G_Mo_hasAll_2 {X : Nat × (Nat → Int32)} {t d D : Nat} {Q : sm_Q} {I : sm_MI} {J : sm_MJ} {rz : Int32}
    (hD : 1 ≤ D) (hQ : Q (.inl (some (.int rz))) (I, J, sm_rf t d))  : ∀ (n : Nat) (x1 : Int32) (x2 : Int32) (x3 : Int32) (x4 : Int32), F_Mo_hasAll_2 I n x1 x2 x3 x4 = some (rz) → sm_W sm_sh X (sm_C sm_sh X sm_P D) me_198 Q (2, [some (.ref 61), some (.int x1), some (.int x2), some (.int x3), some (.int x4)], [], 0, 0) (I, J, sm_rf t d) := by
  intro n
  induction n with
  | zero => intro x1 x2 x3 x4 h; cases (show (none : Option (Int32)) = some (rz) from h)
  | succ n ih => intro x1 x2 x3 x4 h; exact G_Mo_hasAll_2B hD (show F_Mo_hasAll_2B (F_Mo_hasAll_2 I n) x1 x2 x3 x4 I = some (rz) from h) hQ  ih
theorem G_Mo_hasAll {X : Nat × (Nat → Int32)} {t d D : Nat} {Q : sm_Q} {I : sm_MI} {J : sm_MJ} {x1 : Int32} {x2 : Int32} {x3 : Int32} {rz : Int32}
    (hD : 1 ≤ D) (h : F_Mo_hasAll x1 x2 x3 I = some (rz)) (hQ : Q (.inl (some (.int rz))) (I, J, sm_rf t d))  : sm_W sm_sh X (sm_C sm_sh X sm_P D) me_198 Q (0, [some (.ref 61), some (.int x1), some (.int x2), some (.int x3), none], [], 0, 0) (I, J, sm_rf t d) := by
  unfold F_Mo_hasAll at h
  refine sm_W.run (sm_C_mono D) 2 (G := True) (fr' := (2, [some (.ref 61), some (.int x1), some (.int x2), some (.int x3), some (.int (0 : Int32))], [], 0, 0)) (M' := (I, J, sm_rf t d)) rfl trivial ?_
  exact (G_Mo_hasAll_2 hD hQ sd_fu _ _ _ _ h)
theorem T_Mo_hasAll {X : Nat × (Nat → Int32)} {t d D : Nat} {Q : sm_Q} {I : sm_MI} {J : sm_MJ} {x1 : Int32} {x2 : Int32} {x3 : Int32} {rz : Int32}
    (hD : 2 ≤ D) (h : F_Mo_hasAll x1 x2 x3 I = some (rz)) (hQ : Q (.inl (some (.int rz))) (I, J, sm_rf t d)) : sm_C sm_sh X sm_P D 198 [.ref 61, .int x1, .int x2, .int x3] (I, J, sm_rf t d) Q := by
  cases D with
  | zero => omega
  | succ D => exact sm_C.of (me := me_198) (L := [some (.ref 61), some (.int x1), some (.int x2), some (.int x3), none]) rfl rfl rfl (sm_W.forget (L' := [some (.ref 61), some (.int x1), some (.int x2), some (.int x3), none]) ⟨rfl, ⟨rfl, ⟨rfl, ⟨rfl, trivial⟩⟩⟩⟩ (G_Mo_hasAll (by omega) h hQ))
-- 199 Mo_ableOf
noncomputable def F_Mo_ableOf_11B (k11 : Int32 → Int32 → Int32 → Int32 → Int32 → Option (Int32)) (x1 : Int32) (x2 : Int32) (x3 : Int32) (x4 : Int32) (x5 : Int32) (I : sm_MI) : Option (Int32) :=
  if (I 61 1) ≤ x5 then
    some (x4)
  else
    if ¬ ((x1 >>> (x5 &&& 31)) &&& (1 : Int32)) = (1 : Int32) then
      sd_lt (x4 ||| (0 : Int32)) fun a1 =>
      k11 x1 x2 x3 a1 (x5 + (1 : Int32))
    else
      sd_gu (sm_in x5 14 = true) <|
      sd_gu (¬ (4 : Int32) = 0) <|
      if ¬ (I 63 (Int32.toNatClampNeg x5)) = (sd_mod x2 (4 : Int32)) then
        sd_lt (x4 ||| (0 : Int32)) fun a4 =>
        k11 x1 x2 x3 a4 (x5 + (1 : Int32))
      else
        sd_q1 (F_Mo_hasAll x5 x2 x3 I) fun r5 =>
        if r5 = 0 then
          sd_lt (x4 ||| (0 : Int32)) fun a6 =>
          k11 x1 x2 x3 a6 (x5 + (1 : Int32))
        else
          sd_lt (x4 ||| ((1 : Int32) <<< (x5 &&& 31))) fun a7 =>
          k11 x1 x2 x3 a7 (x5 + (1 : Int32))
noncomputable def F_Mo_ableOf_11 (I : sm_MI) (n : Nat) : Int32 → Int32 → Int32 → Int32 → Int32 → Option (Int32) :=
  sd_fix (fun k x1 x2 x3 x4 x5 => F_Mo_ableOf_11B k x1 x2 x3 x4 x5 I) (fun _ _ _ _ _ => none) n
noncomputable def F_Mo_ableOf (x1 : Int32) (x2 : Int32) (x3 : Int32) (I : sm_MI) : Option (Int32) :=
  sd_gu (sm_in x2 20 = true) <|
  if ¬ (I 67 (Int32.toNatClampNeg x2)) = 0 then
    F_Mo_ableOf_11 I sd_fu x1 x2 x3 (0 : Int32) (0 : Int32)
  else
    some ((0 : Int32))
theorem G_Mo_ableOf_11B {X : Nat × (Nat → Int32)} {t d D : Nat} {Q : sm_Q} {I : sm_MI} {J : sm_MJ} {k11 : Int32 → Int32 → Int32 → Int32 → Int32 → Option (Int32)} {x1 : Int32} {x2 : Int32} {x3 : Int32} {x4 : Int32} {x5 : Int32} {rz : Int32}
    (hD : 2 ≤ D) (h : F_Mo_ableOf_11B k11 x1 x2 x3 x4 x5 I = some (rz)) (hQ : Q (.inl (some (.int rz))) (I, J, sm_rf t d)) (hk11 : ∀ (x1 : Int32) (x2 : Int32) (x3 : Int32) (x4 : Int32) (x5 : Int32), k11 x1 x2 x3 x4 x5 = some (rz) → sm_W sm_sh X (sm_C sm_sh X sm_P D) me_199 Q (11, [some (.ref 61), some (.int x1), some (.int x2), some (.int x3), some (.int x4), some (.int x5)], [], 0, 0) (I, J, sm_rf t d)) : sm_W sm_sh X (sm_C sm_sh X sm_P D) me_199 Q (11, [some (.ref 61), some (.int x1), some (.int x2), some (.int x3), some (.int x4), some (.int x5)], [], 0, 0) (I, J, sm_rf t d) := by
  unfold F_Mo_ableOf_11B at h
  refine sm_W.run (sm_C_mono D) 4 (G := True) (fr' := (if decide ((I 61 1) ≤ x5) = true then 46 else 15, [some (.ref 61), some (.int x1), some (.int x2), some (.int x3), some (.int x4), some (.int x5)], [], 0, 0)) (M' := (I, J, sm_rf t d)) rfl trivial (sm_W.iteD h (fun hc h => ?_) (fun hc h => ?_))
  · refine sm_W.run (sm_C_mono D) 1 (G := True) (fr' := (47, [some (.ref 61), some (.int x1), some (.int x2), some (.int x3), some (.int x4), some (.int x5)], [.int x4], 0, 0)) (M' := (I, J, sm_rf t d)) rfl trivial ?_
    cases h
    exact sm_W.ret (sm_C_mono D) rfl hQ
  · refine sm_W.run (sm_C_mono D) 8 (G := True) (fr' := (if decide (¬ ((x1 >>> (x5 &&& 31)) &&& (1 : Int32)) = (1 : Int32)) = true then 41 else 23, [some (.ref 61), some (.int x1), some (.int x2), some (.int x3), some (.int x4), some (.int x5)], [.int x4], 0, 0)) (M' := (I, J, sm_rf t d)) rfl trivial (sm_W.iteD h (fun hc h => ?_) (fun hc h => ?_))
    · refine sm_W.runL (sm_C_mono D) 3 (G := True) (e := (x4 ||| (0 : Int32))) (fr' := fun a1 => (44, [some (.ref 61), some (.int x1), some (.int x2), some (.int x3), some (.int a1), some (.int x5)], [], 0, 0)) (M' := fun _ => (I, J, sm_rf t d)) rfl h trivial (fun a1 h => ?_)
      refine sm_W.run (sm_C_mono D) 2 (G := True) (fr' := (11, [some (.ref 61), some (.int x1), some (.int x2), some (.int x3), some (.int a1), some (.int (x5 + (1 : Int32)))], [], 0, 0)) (M' := (I, J, sm_rf t d)) rfl trivial ?_
      exact (hk11 _ _ _ _ _ h)
    · obtain ⟨g2, h⟩ := sd_gu_go h
      obtain ⟨g3, h⟩ := sd_gu_go h
      refine sm_W.run (sm_C_mono D) 8 (G := sm_in x5 14 = true ∧ ¬ (4 : Int32) = 0 ∧ True) (fr' := (if decide (¬ (I 63 (Int32.toNatClampNeg x5)) = (sd_mod x2 (4 : Int32))) = true then 41 else 31, [some (.ref 61), some (.int x1), some (.int x2), some (.int x3), some (.int x4), some (.int x5)], [.int x4], 0, 0)) (M' := (I, J, sm_rf t d)) rfl ⟨g2, g3, trivial⟩ (sm_W.iteD h (fun hc h => ?_) (fun hc h => ?_))
      · refine sm_W.runL (sm_C_mono D) 3 (G := True) (e := (x4 ||| (0 : Int32))) (fr' := fun a4 => (44, [some (.ref 61), some (.int x1), some (.int x2), some (.int x3), some (.int a4), some (.int x5)], [], 0, 0)) (M' := fun _ => (I, J, sm_rf t d)) rfl h trivial (fun a4 h => ?_)
        refine sm_W.run (sm_C_mono D) 2 (G := True) (fr' := (11, [some (.ref 61), some (.int x1), some (.int x2), some (.int x3), some (.int a4), some (.int (x5 + (1 : Int32)))], [], 0, 0)) (M' := (I, J, sm_rf t d)) rfl trivial ?_
        exact (hk11 _ _ _ _ _ h)
      · refine sm_W.run (sm_C_mono D) 4 (G := True) (fr' := (35, [some (.ref 61), some (.int x1), some (.int x2), some (.int x3), some (.int x4), some (.int x5)], [.int x3, .int x2, .int x5, .ref 61, .int x4], 0, 0)) (M' := (I, J, sm_rf t d)) rfl trivial ?_
        obtain ⟨r5, hc, h⟩ := sd_q1_go h
        refine sm_W.cal (sm_C_mono D) (y := 198) (as := [.ref 61, .int x5, .int x2, .int x3]) (fr' := (36, [some (.ref 61), some (.int x1), some (.int x2), some (.int x3), some (.int x4), some (.int x5)], [.int x4], 0, 0)) rfl (T_Mo_hasAll (by omega) hc ?_)
        show sm_W sm_sh X (sm_C sm_sh X sm_P D) me_199 Q (36, [some (.ref 61), some (.int x1), some (.int x2), some (.int x3), some (.int x4), some (.int x5)], [.int r5, .int x4], 0, 0) (I, J, sm_rf t d)
        refine sm_W.run (sm_C_mono D) 1 (G := True) (fr' := (if decide (r5 = 0) = true then 41 else 37, [some (.ref 61), some (.int x1), some (.int x2), some (.int x3), some (.int x4), some (.int x5)], [.int x4], 0, 0)) (M' := (I, J, sm_rf t d)) rfl trivial (sm_W.iteD h (fun hc h => ?_) (fun hc h => ?_))
        · refine sm_W.runL (sm_C_mono D) 3 (G := True) (e := (x4 ||| (0 : Int32))) (fr' := fun a6 => (44, [some (.ref 61), some (.int x1), some (.int x2), some (.int x3), some (.int a6), some (.int x5)], [], 0, 0)) (M' := fun _ => (I, J, sm_rf t d)) rfl h trivial (fun a6 h => ?_)
          refine sm_W.run (sm_C_mono D) 2 (G := True) (fr' := (11, [some (.ref 61), some (.int x1), some (.int x2), some (.int x3), some (.int a6), some (.int (x5 + (1 : Int32)))], [], 0, 0)) (M' := (I, J, sm_rf t d)) rfl trivial ?_
          exact (hk11 _ _ _ _ _ h)
        · refine sm_W.runL (sm_C_mono D) 6 (G := True) (e := (x4 ||| ((1 : Int32) <<< (x5 &&& 31)))) (fr' := fun a7 => (44, [some (.ref 61), some (.int x1), some (.int x2), some (.int x3), some (.int a7), some (.int x5)], [], 0, 0)) (M' := fun _ => (I, J, sm_rf t d)) rfl h trivial (fun a7 h => ?_)
          refine sm_W.run (sm_C_mono D) 2 (G := True) (fr' := (11, [some (.ref 61), some (.int x1), some (.int x2), some (.int x3), some (.int a7), some (.int (x5 + (1 : Int32)))], [], 0, 0)) (M' := (I, J, sm_rf t d)) rfl trivial ?_
          exact (hk11 _ _ _ _ _ h)
theorem G_Mo_ableOf_11 {X : Nat × (Nat → Int32)} {t d D : Nat} {Q : sm_Q} {I : sm_MI} {J : sm_MJ} {rz : Int32}
    (hD : 2 ≤ D) (hQ : Q (.inl (some (.int rz))) (I, J, sm_rf t d))  : ∀ (n : Nat) (x1 : Int32) (x2 : Int32) (x3 : Int32) (x4 : Int32) (x5 : Int32), F_Mo_ableOf_11 I n x1 x2 x3 x4 x5 = some (rz) → sm_W sm_sh X (sm_C sm_sh X sm_P D) me_199 Q (11, [some (.ref 61), some (.int x1), some (.int x2), some (.int x3), some (.int x4), some (.int x5)], [], 0, 0) (I, J, sm_rf t d) := by
  intro n
  induction n with
  | zero => intro x1 x2 x3 x4 x5 h; cases (show (none : Option (Int32)) = some (rz) from h)
  | succ n ih => intro x1 x2 x3 x4 x5 h; exact G_Mo_ableOf_11B hD (show F_Mo_ableOf_11B (F_Mo_ableOf_11 I n) x1 x2 x3 x4 x5 I = some (rz) from h) hQ  ih
theorem G_Mo_ableOf {X : Nat × (Nat → Int32)} {t d D : Nat} {Q : sm_Q} {I : sm_MI} {J : sm_MJ} {x1 : Int32} {x2 : Int32} {x3 : Int32} {rz : Int32}
    (hD : 2 ≤ D) (h : F_Mo_ableOf x1 x2 x3 I = some (rz)) (hQ : Q (.inl (some (.int rz))) (I, J, sm_rf t d))  : sm_W sm_sh X (sm_C sm_sh X sm_P D) me_199 Q (0, [some (.ref 61), some (.int x1), some (.int x2), some (.int x3), none, none], [], 0, 0) (I, J, sm_rf t d) := by
  unfold F_Mo_ableOf at h
  obtain ⟨g1, h⟩ := sd_gu_go h
  refine sm_W.run (sm_C_mono D) 5 (G := sm_in x2 20 = true ∧ True) (fr' := (if decide (¬ (I 67 (Int32.toNatClampNeg x2)) = 0) = true then 7 else 5, [some (.ref 61), some (.int x1), some (.int x2), some (.int x3), none, none], [], 0, 0)) (M' := (I, J, sm_rf t d)) rfl ⟨g1, trivial⟩ (sm_W.iteD h (fun hc h => ?_) (fun hc h => ?_))
  · refine sm_W.run (sm_C_mono D) 4 (G := True) (fr' := (11, [some (.ref 61), some (.int x1), some (.int x2), some (.int x3), some (.int (0 : Int32)), some (.int (0 : Int32))], [], 0, 0)) (M' := (I, J, sm_rf t d)) rfl trivial ?_
    exact (G_Mo_ableOf_11 hD hQ sd_fu _ _ _ _ _ h)
  · refine sm_W.run (sm_C_mono D) 1 (G := True) (fr' := (6, [some (.ref 61), some (.int x1), some (.int x2), some (.int x3), none, none], [.int (0 : Int32)], 0, 0)) (M' := (I, J, sm_rf t d)) rfl trivial ?_
    cases h
    exact sm_W.ret (sm_C_mono D) rfl hQ
theorem T_Mo_ableOf {X : Nat × (Nat → Int32)} {t d D : Nat} {Q : sm_Q} {I : sm_MI} {J : sm_MJ} {x1 : Int32} {x2 : Int32} {x3 : Int32} {rz : Int32}
    (hD : 3 ≤ D) (h : F_Mo_ableOf x1 x2 x3 I = some (rz)) (hQ : Q (.inl (some (.int rz))) (I, J, sm_rf t d)) : sm_C sm_sh X sm_P D 199 [.ref 61, .int x1, .int x2, .int x3] (I, J, sm_rf t d) Q := by
  cases D with
  | zero => omega
  | succ D => exact sm_C.of (me := me_199) (L := [some (.ref 61), some (.int x1), some (.int x2), some (.int x3), none, none]) rfl rfl rfl (sm_W.forget (L' := [some (.ref 61), some (.int x1), some (.int x2), some (.int x3), none, none]) ⟨rfl, ⟨rfl, ⟨rfl, ⟨rfl, trivial⟩⟩⟩⟩ (G_Mo_ableOf (by omega) h hQ))
-- 200 Mo_hasRows
noncomputable def F_Mo_hasRows (x1 : Int32) (I : sm_MI) : Option (Int32) :=
  sd_gu (sm_in ((4 : Int32) * x1) 20 = true) <|
  sd_gu (sm_in (((4 : Int32) * x1) + (1 : Int32)) 20 = true) <|
  sd_gu (sm_in (((4 : Int32) * x1) + (2 : Int32)) 20 = true) <|
  sd_gu (sm_in (((4 : Int32) * x1) + (3 : Int32)) 20 = true) <|
  if ((((I 67 (Int32.toNatClampNeg ((4 : Int32) * x1))) + (I 67 (Int32.toNatClampNeg (((4 : Int32) * x1) + (1 : Int32))))) + (I 67 (Int32.toNatClampNeg (((4 : Int32) * x1) + (2 : Int32))))) + (I 67 (Int32.toNatClampNeg (((4 : Int32) * x1) + (3 : Int32))))) ≤ 0 then
    some ((0 : Int32))
  else
    some ((1 : Int32))
theorem G_Mo_hasRows {X : Nat × (Nat → Int32)} {t d D : Nat} {Q : sm_Q} {I : sm_MI} {J : sm_MJ} {x1 : Int32} {rz : Int32}
    (hD : 0 ≤ D) (h : F_Mo_hasRows x1 I = some (rz)) (hQ : Q (.inl (some (.int rz))) (I, J, sm_rf t d))  : sm_W sm_sh X (sm_C sm_sh X sm_P D) me_200 Q (0, [some (.ref 61), some (.int x1)], [], 0, 0) (I, J, sm_rf t d) := by
  unfold F_Mo_hasRows at h
  obtain ⟨g1, h⟩ := sd_gu_go h
  obtain ⟨g2, h⟩ := sd_gu_go h
  obtain ⟨g3, h⟩ := sd_gu_go h
  obtain ⟨g4, h⟩ := sd_gu_go h
  refine sm_W.run (sm_C_mono D) 34 (G := sm_in ((4 : Int32) * x1) 20 = true ∧ sm_in (((4 : Int32) * x1) + (1 : Int32)) 20 = true ∧ sm_in (((4 : Int32) * x1) + (2 : Int32)) 20 = true ∧ sm_in (((4 : Int32) * x1) + (3 : Int32)) 20 = true ∧ True) (fr' := (if decide (((((I 67 (Int32.toNatClampNeg ((4 : Int32) * x1))) + (I 67 (Int32.toNatClampNeg (((4 : Int32) * x1) + (1 : Int32))))) + (I 67 (Int32.toNatClampNeg (((4 : Int32) * x1) + (2 : Int32))))) + (I 67 (Int32.toNatClampNeg (((4 : Int32) * x1) + (3 : Int32))))) ≤ 0) = true then 36 else 34, [some (.ref 61), some (.int x1)], [], 0, 0)) (M' := (I, J, sm_rf t d)) rfl ⟨g1, g2, g3, g4, trivial⟩ (sm_W.iteD h (fun hc h => ?_) (fun hc h => ?_))
  · refine sm_W.run (sm_C_mono D) 1 (G := True) (fr' := (37, [some (.ref 61), some (.int x1)], [.int (0 : Int32)], 0, 0)) (M' := (I, J, sm_rf t d)) rfl trivial ?_
    cases h
    exact sm_W.ret (sm_C_mono D) rfl hQ
  · refine sm_W.run (sm_C_mono D) 2 (G := True) (fr' := (37, [some (.ref 61), some (.int x1)], [.int (1 : Int32)], 0, 0)) (M' := (I, J, sm_rf t d)) rfl trivial ?_
    cases h
    exact sm_W.ret (sm_C_mono D) rfl hQ
theorem T_Mo_hasRows {X : Nat × (Nat → Int32)} {t d D : Nat} {Q : sm_Q} {I : sm_MI} {J : sm_MJ} {x1 : Int32} {rz : Int32}
    (hD : 1 ≤ D) (h : F_Mo_hasRows x1 I = some (rz)) (hQ : Q (.inl (some (.int rz))) (I, J, sm_rf t d)) : sm_C sm_sh X sm_P D 200 [.ref 61, .int x1] (I, J, sm_rf t d) Q := by
  cases D with
  | zero => omega
  | succ D => exact sm_C.of (me := me_200) (L := [some (.ref 61), some (.int x1)]) rfl rfl rfl (sm_W.forget (L' := [some (.ref 61), some (.int x1)]) ⟨rfl, ⟨rfl, trivial⟩⟩ (G_Mo_hasRows (by omega) h hQ))
-- 201 Mo_canBeSung
noncomputable def F_Mo_canBeSung_10B (k10 : Int32 → Int32 → Int32 → Int32 → Option (Int32)) (x1 : Int32) (x2 : Int32) (x3 : Int32) (x4 : Int32) (I : sm_MI) : Option (Int32) :=
  if (((4 : Int32) * x2) + (4 : Int32)) ≤ x4 then
    some ((1 : Int32))
  else
    sd_q1 (F_Mo_ableOf x1 x4 x3 I) fun r1 =>
    sd_q1 (F_Mo_bits r1) fun r2 =>
    sd_gu (sm_in x4 20 = true) <|
    if (I 67 (Int32.toNatClampNeg x4)) ≤ r2 then
      k10 x1 x2 x3 (x4 + (1 : Int32))
    else
      some ((0 : Int32))
noncomputable def F_Mo_canBeSung_10 (I : sm_MI) (n : Nat) : Int32 → Int32 → Int32 → Int32 → Option (Int32) :=
  sd_fix (fun k x1 x2 x3 x4 => F_Mo_canBeSung_10B k x1 x2 x3 x4 I) (fun _ _ _ _ => none) n
noncomputable def F_Mo_canBeSung (x1 : Int32) (x2 : Int32) (x3 : Int32) (I : sm_MI) : Option (Int32) :=
  sd_q1 (F_Mo_hasRows x2 I) fun r1 =>
  if ¬ r1 = 0 then
    sd_lt ((4 : Int32) * x2) fun a2 =>
    F_Mo_canBeSung_10 I sd_fu x1 x2 x3 a2
  else
    some ((0 : Int32))
theorem G_Mo_canBeSung_10B {X : Nat × (Nat → Int32)} {t d D : Nat} {Q : sm_Q} {I : sm_MI} {J : sm_MJ} {k10 : Int32 → Int32 → Int32 → Int32 → Option (Int32)} {x1 : Int32} {x2 : Int32} {x3 : Int32} {x4 : Int32} {rz : Int32}
    (hD : 3 ≤ D) (h : F_Mo_canBeSung_10B k10 x1 x2 x3 x4 I = some (rz)) (hQ : Q (.inl (some (.int rz))) (I, J, sm_rf t d)) (hk10 : ∀ (x1 : Int32) (x2 : Int32) (x3 : Int32) (x4 : Int32), k10 x1 x2 x3 x4 = some (rz) → sm_W sm_sh X (sm_C sm_sh X sm_P D) me_201 Q (10, [some (.ref 61), some (.int x1), some (.int x2), some (.int x3), some (.int x4)], [], 0, 0) (I, J, sm_rf t d)) : sm_W sm_sh X (sm_C sm_sh X sm_P D) me_201 Q (10, [some (.ref 61), some (.int x1), some (.int x2), some (.int x3), some (.int x4)], [], 0, 0) (I, J, sm_rf t d) := by
  unfold F_Mo_canBeSung_10B at h
  refine sm_W.run (sm_C_mono D) 7 (G := True) (fr' := (if decide ((((4 : Int32) * x2) + (4 : Int32)) ≤ x4) = true then 32 else 17, [some (.ref 61), some (.int x1), some (.int x2), some (.int x3), some (.int x4)], [], 0, 0)) (M' := (I, J, sm_rf t d)) rfl trivial (sm_W.iteD h (fun hc h => ?_) (fun hc h => ?_))
  · refine sm_W.run (sm_C_mono D) 1 (G := True) (fr' := (33, [some (.ref 61), some (.int x1), some (.int x2), some (.int x3), some (.int x4)], [.int (1 : Int32)], 0, 0)) (M' := (I, J, sm_rf t d)) rfl trivial ?_
    cases h
    exact sm_W.ret (sm_C_mono D) rfl hQ
  · refine sm_W.run (sm_C_mono D) 4 (G := True) (fr' := (21, [some (.ref 61), some (.int x1), some (.int x2), some (.int x3), some (.int x4)], [.int x3, .int x4, .int x1, .ref 61], 0, 0)) (M' := (I, J, sm_rf t d)) rfl trivial ?_
    obtain ⟨r1, hc, h⟩ := sd_q1_go h
    refine sm_W.cal (sm_C_mono D) (y := 199) (as := [.ref 61, .int x1, .int x4, .int x3]) (fr' := (22, [some (.ref 61), some (.int x1), some (.int x2), some (.int x3), some (.int x4)], [], 0, 0)) rfl (T_Mo_ableOf (by omega) hc ?_)
    show sm_W sm_sh X (sm_C sm_sh X sm_P D) me_201 Q (22, [some (.ref 61), some (.int x1), some (.int x2), some (.int x3), some (.int x4)], [.int r1], 0, 0) (I, J, sm_rf t d)
    obtain ⟨r2, hc, h⟩ := sd_q1_go h
    refine sm_W.cal (sm_C_mono D) (y := 161) (as := [.int r1]) (fr' := (23, [some (.ref 61), some (.int x1), some (.int x2), some (.int x3), some (.int x4)], [], 0, 0)) rfl (T_Mo_bits (by omega) hc ?_)
    show sm_W sm_sh X (sm_C sm_sh X sm_P D) me_201 Q (23, [some (.ref 61), some (.int x1), some (.int x2), some (.int x3), some (.int x4)], [.int r2], 0, 0) (I, J, sm_rf t d)
    obtain ⟨g3, h⟩ := sd_gu_go h
    refine sm_W.run (sm_C_mono D) 5 (G := sm_in x4 20 = true ∧ True) (fr' := (if decide ((I 67 (Int32.toNatClampNeg x4)) ≤ r2) = true then 30 else 28, [some (.ref 61), some (.int x1), some (.int x2), some (.int x3), some (.int x4)], [], 0, 0)) (M' := (I, J, sm_rf t d)) rfl ⟨g3, trivial⟩ (sm_W.iteD h (fun hc h => ?_) (fun hc h => ?_))
    · refine sm_W.run (sm_C_mono D) 2 (G := True) (fr' := (10, [some (.ref 61), some (.int x1), some (.int x2), some (.int x3), some (.int (x4 + (1 : Int32)))], [], 0, 0)) (M' := (I, J, sm_rf t d)) rfl trivial ?_
      exact (hk10 _ _ _ _ h)
    · refine sm_W.run (sm_C_mono D) 1 (G := True) (fr' := (29, [some (.ref 61), some (.int x1), some (.int x2), some (.int x3), some (.int x4)], [.int (0 : Int32)], 0, 0)) (M' := (I, J, sm_rf t d)) rfl trivial ?_
      cases h
      exact sm_W.ret (sm_C_mono D) rfl hQ
theorem G_Mo_canBeSung_10 {X : Nat × (Nat → Int32)} {t d D : Nat} {Q : sm_Q} {I : sm_MI} {J : sm_MJ} {rz : Int32}
    (hD : 3 ≤ D) (hQ : Q (.inl (some (.int rz))) (I, J, sm_rf t d))  : ∀ (n : Nat) (x1 : Int32) (x2 : Int32) (x3 : Int32) (x4 : Int32), F_Mo_canBeSung_10 I n x1 x2 x3 x4 = some (rz) → sm_W sm_sh X (sm_C sm_sh X sm_P D) me_201 Q (10, [some (.ref 61), some (.int x1), some (.int x2), some (.int x3), some (.int x4)], [], 0, 0) (I, J, sm_rf t d) := by
  intro n
  induction n with
  | zero => intro x1 x2 x3 x4 h; cases (show (none : Option (Int32)) = some (rz) from h)
  | succ n ih => intro x1 x2 x3 x4 h; exact G_Mo_canBeSung_10B hD (show F_Mo_canBeSung_10B (F_Mo_canBeSung_10 I n) x1 x2 x3 x4 I = some (rz) from h) hQ  ih
theorem G_Mo_canBeSung {X : Nat × (Nat → Int32)} {t d D : Nat} {Q : sm_Q} {I : sm_MI} {J : sm_MJ} {x1 : Int32} {x2 : Int32} {x3 : Int32} {rz : Int32}
    (hD : 3 ≤ D) (h : F_Mo_canBeSung x1 x2 x3 I = some (rz)) (hQ : Q (.inl (some (.int rz))) (I, J, sm_rf t d))  : sm_W sm_sh X (sm_C sm_sh X sm_P D) me_201 Q (0, [some (.ref 61), some (.int x1), some (.int x2), some (.int x3), none], [], 0, 0) (I, J, sm_rf t d) := by
  unfold F_Mo_canBeSung at h
  refine sm_W.run (sm_C_mono D) 2 (G := True) (fr' := (2, [some (.ref 61), some (.int x1), some (.int x2), some (.int x3), none], [.int x2, .ref 61], 0, 0)) (M' := (I, J, sm_rf t d)) rfl trivial ?_
  obtain ⟨r1, hc, h⟩ := sd_q1_go h
  refine sm_W.cal (sm_C_mono D) (y := 200) (as := [.ref 61, .int x2]) (fr' := (3, [some (.ref 61), some (.int x1), some (.int x2), some (.int x3), none], [], 0, 0)) rfl (T_Mo_hasRows (by omega) hc ?_)
  show sm_W sm_sh X (sm_C sm_sh X sm_P D) me_201 Q (3, [some (.ref 61), some (.int x1), some (.int x2), some (.int x3), none], [.int r1], 0, 0) (I, J, sm_rf t d)
  refine sm_W.run (sm_C_mono D) 1 (G := True) (fr' := (if decide (¬ r1 = 0) = true then 6 else 4, [some (.ref 61), some (.int x1), some (.int x2), some (.int x3), none], [], 0, 0)) (M' := (I, J, sm_rf t d)) rfl trivial (sm_W.iteD h (fun hc h => ?_) (fun hc h => ?_))
  · refine sm_W.runL (sm_C_mono D) 4 (G := True) (e := ((4 : Int32) * x2)) (fr' := fun a2 => (10, [some (.ref 61), some (.int x1), some (.int x2), some (.int x3), some (.int a2)], [], 0, 0)) (M' := fun _ => (I, J, sm_rf t d)) rfl h trivial (fun a2 h => ?_)
    exact (G_Mo_canBeSung_10 hD hQ sd_fu _ _ _ _ h)
  · refine sm_W.run (sm_C_mono D) 1 (G := True) (fr' := (5, [some (.ref 61), some (.int x1), some (.int x2), some (.int x3), none], [.int (0 : Int32)], 0, 0)) (M' := (I, J, sm_rf t d)) rfl trivial ?_
    cases h
    exact sm_W.ret (sm_C_mono D) rfl hQ
theorem T_Mo_canBeSung {X : Nat × (Nat → Int32)} {t d D : Nat} {Q : sm_Q} {I : sm_MI} {J : sm_MJ} {x1 : Int32} {x2 : Int32} {x3 : Int32} {rz : Int32}
    (hD : 4 ≤ D) (h : F_Mo_canBeSung x1 x2 x3 I = some (rz)) (hQ : Q (.inl (some (.int rz))) (I, J, sm_rf t d)) : sm_C sm_sh X sm_P D 201 [.ref 61, .int x1, .int x2, .int x3] (I, J, sm_rf t d) Q := by
  cases D with
  | zero => omega
  | succ D => exact sm_C.of (me := me_201) (L := [some (.ref 61), some (.int x1), some (.int x2), some (.int x3), none]) rfl rfl rfl (sm_W.forget (L' := [some (.ref 61), some (.int x1), some (.int x2), some (.int x3), none]) ⟨rfl, ⟨rfl, ⟨rfl, ⟨rfl, trivial⟩⟩⟩⟩ (G_Mo_canBeSung (by omega) h hQ))
-- 202 Mo_sungBy
noncomputable def F_Mo_sungBy_4B (k4 : Int32 → Int32 → Int32 → Option (Int32)) (x1 : Int32) (x2 : Int32) (x3 : Int32) (I : sm_MI) : Option (Int32) :=
  if (I 61 2) ≤ x3 then
    some (x2)
  else
    sd_q1 (F_Mo_canBeSung x1 x3 (0 : Int32) I) fun r1 =>
    if r1 = 0 then
      sd_lt (x2 ||| (0 : Int32)) fun a2 =>
      k4 x1 a2 (x3 + (1 : Int32))
    else
      sd_lt (x2 ||| ((1 : Int32) <<< (x3 &&& 31))) fun a3 =>
      k4 x1 a3 (x3 + (1 : Int32))
noncomputable def F_Mo_sungBy_4 (I : sm_MI) (n : Nat) : Int32 → Int32 → Int32 → Option (Int32) :=
  sd_fix (fun k x1 x2 x3 => F_Mo_sungBy_4B k x1 x2 x3 I) (fun _ _ _ => none) n
noncomputable def F_Mo_sungBy (x1 : Int32) (I : sm_MI) : Option (Int32) :=
  F_Mo_sungBy_4 I sd_fu x1 (0 : Int32) (0 : Int32)
theorem G_Mo_sungBy_4B {X : Nat × (Nat → Int32)} {t d D : Nat} {Q : sm_Q} {I : sm_MI} {J : sm_MJ} {k4 : Int32 → Int32 → Int32 → Option (Int32)} {x1 : Int32} {x2 : Int32} {x3 : Int32} {rz : Int32}
    (hD : 4 ≤ D) (h : F_Mo_sungBy_4B k4 x1 x2 x3 I = some (rz)) (hQ : Q (.inl (some (.int rz))) (I, J, sm_rf t d)) (hk4 : ∀ (x1 : Int32) (x2 : Int32) (x3 : Int32), k4 x1 x2 x3 = some (rz) → sm_W sm_sh X (sm_C sm_sh X sm_P D) me_202 Q (4, [some (.ref 61), some (.int x1), some (.int x2), some (.int x3)], [], 0, 0) (I, J, sm_rf t d)) : sm_W sm_sh X (sm_C sm_sh X sm_P D) me_202 Q (4, [some (.ref 61), some (.int x1), some (.int x2), some (.int x3)], [], 0, 0) (I, J, sm_rf t d) := by
  unfold F_Mo_sungBy_4B at h
  refine sm_W.run (sm_C_mono D) 4 (G := True) (fr' := (if decide ((I 61 2) ≤ x3) = true then 24 else 8, [some (.ref 61), some (.int x1), some (.int x2), some (.int x3)], [], 0, 0)) (M' := (I, J, sm_rf t d)) rfl trivial (sm_W.iteD h (fun hc h => ?_) (fun hc h => ?_))
  · refine sm_W.run (sm_C_mono D) 1 (G := True) (fr' := (25, [some (.ref 61), some (.int x1), some (.int x2), some (.int x3)], [.int x2], 0, 0)) (M' := (I, J, sm_rf t d)) rfl trivial ?_
    cases h
    exact sm_W.ret (sm_C_mono D) rfl hQ
  · refine sm_W.run (sm_C_mono D) 5 (G := True) (fr' := (13, [some (.ref 61), some (.int x1), some (.int x2), some (.int x3)], [.int (0 : Int32), .int x3, .int x1, .ref 61, .int x2], 0, 0)) (M' := (I, J, sm_rf t d)) rfl trivial ?_
    obtain ⟨r1, hc, h⟩ := sd_q1_go h
    refine sm_W.cal (sm_C_mono D) (y := 201) (as := [.ref 61, .int x1, .int x3, .int (0 : Int32)]) (fr' := (14, [some (.ref 61), some (.int x1), some (.int x2), some (.int x3)], [.int x2], 0, 0)) rfl (T_Mo_canBeSung (by omega) hc ?_)
    show sm_W sm_sh X (sm_C sm_sh X sm_P D) me_202 Q (14, [some (.ref 61), some (.int x1), some (.int x2), some (.int x3)], [.int r1, .int x2], 0, 0) (I, J, sm_rf t d)
    refine sm_W.run (sm_C_mono D) 1 (G := True) (fr' := (if decide (r1 = 0) = true then 19 else 15, [some (.ref 61), some (.int x1), some (.int x2), some (.int x3)], [.int x2], 0, 0)) (M' := (I, J, sm_rf t d)) rfl trivial (sm_W.iteD h (fun hc h => ?_) (fun hc h => ?_))
    · refine sm_W.runL (sm_C_mono D) 3 (G := True) (e := (x2 ||| (0 : Int32))) (fr' := fun a2 => (22, [some (.ref 61), some (.int x1), some (.int a2), some (.int x3)], [], 0, 0)) (M' := fun _ => (I, J, sm_rf t d)) rfl h trivial (fun a2 h => ?_)
      refine sm_W.run (sm_C_mono D) 2 (G := True) (fr' := (4, [some (.ref 61), some (.int x1), some (.int a2), some (.int (x3 + (1 : Int32)))], [], 0, 0)) (M' := (I, J, sm_rf t d)) rfl trivial ?_
      exact (hk4 _ _ _ h)
    · refine sm_W.runL (sm_C_mono D) 6 (G := True) (e := (x2 ||| ((1 : Int32) <<< (x3 &&& 31)))) (fr' := fun a3 => (22, [some (.ref 61), some (.int x1), some (.int a3), some (.int x3)], [], 0, 0)) (M' := fun _ => (I, J, sm_rf t d)) rfl h trivial (fun a3 h => ?_)
      refine sm_W.run (sm_C_mono D) 2 (G := True) (fr' := (4, [some (.ref 61), some (.int x1), some (.int a3), some (.int (x3 + (1 : Int32)))], [], 0, 0)) (M' := (I, J, sm_rf t d)) rfl trivial ?_
      exact (hk4 _ _ _ h)
theorem G_Mo_sungBy_4 {X : Nat × (Nat → Int32)} {t d D : Nat} {Q : sm_Q} {I : sm_MI} {J : sm_MJ} {rz : Int32}
    (hD : 4 ≤ D) (hQ : Q (.inl (some (.int rz))) (I, J, sm_rf t d))  : ∀ (n : Nat) (x1 : Int32) (x2 : Int32) (x3 : Int32), F_Mo_sungBy_4 I n x1 x2 x3 = some (rz) → sm_W sm_sh X (sm_C sm_sh X sm_P D) me_202 Q (4, [some (.ref 61), some (.int x1), some (.int x2), some (.int x3)], [], 0, 0) (I, J, sm_rf t d) := by
  intro n
  induction n with
  | zero => intro x1 x2 x3 h; cases (show (none : Option (Int32)) = some (rz) from h)
  | succ n ih => intro x1 x2 x3 h; exact G_Mo_sungBy_4B hD (show F_Mo_sungBy_4B (F_Mo_sungBy_4 I n) x1 x2 x3 I = some (rz) from h) hQ  ih
theorem G_Mo_sungBy {X : Nat × (Nat → Int32)} {t d D : Nat} {Q : sm_Q} {I : sm_MI} {J : sm_MJ} {x1 : Int32} {rz : Int32}
    (hD : 4 ≤ D) (h : F_Mo_sungBy x1 I = some (rz)) (hQ : Q (.inl (some (.int rz))) (I, J, sm_rf t d))  : sm_W sm_sh X (sm_C sm_sh X sm_P D) me_202 Q (0, [some (.ref 61), some (.int x1), none, none], [], 0, 0) (I, J, sm_rf t d) := by
  unfold F_Mo_sungBy at h
  refine sm_W.run (sm_C_mono D) 4 (G := True) (fr' := (4, [some (.ref 61), some (.int x1), some (.int (0 : Int32)), some (.int (0 : Int32))], [], 0, 0)) (M' := (I, J, sm_rf t d)) rfl trivial ?_
  exact (G_Mo_sungBy_4 hD hQ sd_fu _ _ _ h)
theorem T_Mo_sungBy {X : Nat × (Nat → Int32)} {t d D : Nat} {Q : sm_Q} {I : sm_MI} {J : sm_MJ} {x1 : Int32} {rz : Int32}
    (hD : 5 ≤ D) (h : F_Mo_sungBy x1 I = some (rz)) (hQ : Q (.inl (some (.int rz))) (I, J, sm_rf t d)) : sm_C sm_sh X sm_P D 202 [.ref 61, .int x1] (I, J, sm_rf t d) Q := by
  cases D with
  | zero => omega
  | succ D => exact sm_C.of (me := me_202) (L := [some (.ref 61), some (.int x1), none, none]) rfl rfl rfl (sm_W.forget (L' := [some (.ref 61), some (.int x1), none, none]) ⟨rfl, ⟨rfl, trivial⟩⟩ (G_Mo_sungBy (by omega) h hQ))
-- 203 Mo_count
noncomputable def F_Mo_count (x1 : Int32) (I : sm_MI) : Option (Int32 × sm_MI) :=
  sd_lt (sd_up I 61 0 (0 : Int32)) fun I1 =>
  sd_q1 (F_Mo_within x1 (0 : Int32) (14 : Int32)) fun r2 =>
  sd_q2 (F_Mo_right r2 (1 : Int32) I1) fun r3 I4 =>
  if ¬ r3 = 0 then
    if x1 = (0 : Int32) then
      some ((I4 61 1), I4)
    else if x1 = (1 : Int32) then
      some ((I4 61 2), I4)
    else if x1 = (2 : Int32) then
      some ((I4 61 3), I4)
    else if x1 = (3 : Int32) then
      sd_gu (sm_in (14 : Int32) 16 = true) <|
      some ((I4 86 14), I4)
    else if x1 = (4 : Int32) then
      sd_gu (sm_in (15 : Int32) 16 = true) <|
      some ((I4 86 15), I4)
    else if x1 = (5 : Int32) then
      sd_q1 (F_Mo_areSo 86 (0 : Int32) I4) fun r7 =>
      some (r7, I4)
    else if x1 = (6 : Int32) then
      sd_q1 (F_Mo_areSo 86 (1 : Int32) I4) fun r8 =>
      some (r8, I4)
    else if x1 = (7 : Int32) then
      sd_q1 (F_Mo_areSo 86 (2 : Int32) I4) fun r9 =>
      some (r9, I4)
    else if x1 = (8 : Int32) then
      sd_q1 (F_Mo_areSo 86 (0 : Int32) I4) fun r10 =>
      sd_q1 (F_Mo_sungBy r10 I4) fun r11 =>
      some (r11, I4)
    else if x1 = (9 : Int32) then
      some ((I4 61 50), I4)
    else if x1 = (10 : Int32) then
      some ((I4 61 53), I4)
    else if x1 = (11 : Int32) then
      some ((I4 61 15), I4)
    else 
      sd_gu (sm_in (x1 - (12 : Int32)) 3 = true) <|
      some ((I4 73 (Int32.toNatClampNeg (x1 - (12 : Int32)))), I4)
  else
    some ((0 : Int32), I4)
theorem G_Mo_count {X : Nat × (Nat → Int32)} {t d D : Nat} {Q : sm_Q} {I : sm_MI} {J : sm_MJ} {x1 : Int32} {rz : Int32} {Iz : sm_MI}
    (hD : 5 ≤ D) (h : F_Mo_count x1 I = some (rz, Iz)) (hQ : Q (.inl (some (.int rz))) (Iz, J, sm_rf t d))  : sm_W sm_sh X (sm_C sm_sh X sm_P D) me_203 Q (0, [some (.ref 61), some (.int x1)], [], 0, 0) (I, J, sm_rf t d) := by
  unfold F_Mo_count at h
  refine sm_W.runL (sm_C_mono D) 3 (G := True) (e := (sd_up I 61 0 (0 : Int32))) (fr' := fun _ => (3, [some (.ref 61), some (.int x1)], [], 0, 0)) (M' := fun I1 => (I1, J, sm_rf t d)) rfl h trivial (fun I1 h => ?_)
  refine sm_W.run (sm_C_mono D) 4 (G := True) (fr' := (7, [some (.ref 61), some (.int x1)], [.int (14 : Int32), .int (0 : Int32), .int x1, .ref 61], 0, 0)) (M' := (I1, J, sm_rf t d)) rfl trivial ?_
  obtain ⟨r2, hc, h⟩ := sd_q1_go h
  refine sm_W.cal (sm_C_mono D) (y := 159) (as := [.int x1, .int (0 : Int32), .int (14 : Int32)]) (fr' := (8, [some (.ref 61), some (.int x1)], [.ref 61], 0, 0)) rfl (T_Mo_within (by omega) hc ?_)
  show sm_W sm_sh X (sm_C sm_sh X sm_P D) me_203 Q (8, [some (.ref 61), some (.int x1)], [.int r2, .ref 61], 0, 0) (I1, J, sm_rf t d)
  refine sm_W.run (sm_C_mono D) 1 (G := True) (fr' := (9, [some (.ref 61), some (.int x1)], [.int (1 : Int32), .int r2, .ref 61], 0, 0)) (M' := (I1, J, sm_rf t d)) rfl trivial ?_
  obtain ⟨r3, I4, hc, h⟩ := sd_q2_go h
  refine sm_W.cal (sm_C_mono D) (y := 158) (as := [.ref 61, .int r2, .int (1 : Int32)]) (fr' := (10, [some (.ref 61), some (.int x1)], [], 0, 0)) rfl (T_Mo_right (by omega) hc ?_)
  show sm_W sm_sh X (sm_C sm_sh X sm_P D) me_203 Q (10, [some (.ref 61), some (.int x1)], [.int r3], 0, 0) (I4, J, sm_rf t d)
  refine sm_W.run (sm_C_mono D) 1 (G := True) (fr' := (if decide (¬ r3 = 0) = true then 13 else 11, [some (.ref 61), some (.int x1)], [], 0, 0)) (M' := (I4, J, sm_rf t d)) rfl trivial (sm_W.iteD h (fun hc h => ?_) (fun hc h => ?_))
  · refine sm_W.run (sm_C_mono D) 2 (G := True) (fr' := (sm_sw (Int32.toInt x1) (0) [15, 18, 21, 24, 29, 34, 40, 46, 52, 60, 63, 66] 69, [some (.ref 61), some (.int x1)], [], 0, 0)) (M' := (I4, J, sm_rf t d)) rfl trivial ?_
    rw [sd_sw_eq]
    refine sm_W.swS (c := (0 : Int32)) (by decide) h (fun h => ?_) (fun h => ?_)
    · refine sm_W.run (sm_C_mono D) 2 (G := True) (fr' := (17, [some (.ref 61), some (.int x1)], [.int (I4 61 1)], 0, 0)) (M' := (I4, J, sm_rf t d)) rfl trivial ?_
      cases h
      exact sm_W.ret (sm_C_mono D) rfl hQ
    refine sm_W.swS (c := (1 : Int32)) (by decide) h (fun h => ?_) (fun h => ?_)
    · refine sm_W.run (sm_C_mono D) 2 (G := True) (fr' := (20, [some (.ref 61), some (.int x1)], [.int (I4 61 2)], 0, 0)) (M' := (I4, J, sm_rf t d)) rfl trivial ?_
      cases h
      exact sm_W.ret (sm_C_mono D) rfl hQ
    refine sm_W.swS (c := (2 : Int32)) (by decide) h (fun h => ?_) (fun h => ?_)
    · refine sm_W.run (sm_C_mono D) 2 (G := True) (fr' := (23, [some (.ref 61), some (.int x1)], [.int (I4 61 3)], 0, 0)) (M' := (I4, J, sm_rf t d)) rfl trivial ?_
      cases h
      exact sm_W.ret (sm_C_mono D) rfl hQ
    refine sm_W.swS (c := (3 : Int32)) (by decide) h (fun h => ?_) (fun h => ?_)
    · obtain ⟨g5, h⟩ := sd_gu_go h
      refine sm_W.run (sm_C_mono D) 4 (G := sm_in (14 : Int32) 16 = true ∧ True) (fr' := (28, [some (.ref 61), some (.int x1)], [.int (I4 86 14)], 0, 0)) (M' := (I4, J, sm_rf t d)) rfl ⟨g5, trivial⟩ ?_
      cases h
      exact sm_W.ret (sm_C_mono D) rfl hQ
    refine sm_W.swS (c := (4 : Int32)) (by decide) h (fun h => ?_) (fun h => ?_)
    · obtain ⟨g6, h⟩ := sd_gu_go h
      refine sm_W.run (sm_C_mono D) 4 (G := sm_in (15 : Int32) 16 = true ∧ True) (fr' := (33, [some (.ref 61), some (.int x1)], [.int (I4 86 15)], 0, 0)) (M' := (I4, J, sm_rf t d)) rfl ⟨g6, trivial⟩ ?_
      cases h
      exact sm_W.ret (sm_C_mono D) rfl hQ
    refine sm_W.swS (c := (5 : Int32)) (by decide) h (fun h => ?_) (fun h => ?_)
    · refine sm_W.run (sm_C_mono D) 4 (G := True) (fr' := (38, [some (.ref 61), some (.int x1)], [.int (0 : Int32), .ref 86, .ref 61], 0, 0)) (M' := (I4, J, sm_rf t d)) rfl trivial ?_
      obtain ⟨r7, hc, h⟩ := sd_q1_go h
      refine sm_W.cal (sm_C_mono D) (y := 196) (as := [.ref 61, .ref 86, .int (0 : Int32)]) (fr' := (39, [some (.ref 61), some (.int x1)], [], 0, 0)) rfl (T_Mo_areSo (by omega) (by decide) hc ?_)
      show sm_W sm_sh X (sm_C sm_sh X sm_P D) me_203 Q (39, [some (.ref 61), some (.int x1)], [.int r7], 0, 0) (I4, J, sm_rf t d)
      cases h
      exact sm_W.ret (sm_C_mono D) rfl hQ
    refine sm_W.swS (c := (6 : Int32)) (by decide) h (fun h => ?_) (fun h => ?_)
    · refine sm_W.run (sm_C_mono D) 4 (G := True) (fr' := (44, [some (.ref 61), some (.int x1)], [.int (1 : Int32), .ref 86, .ref 61], 0, 0)) (M' := (I4, J, sm_rf t d)) rfl trivial ?_
      obtain ⟨r8, hc, h⟩ := sd_q1_go h
      refine sm_W.cal (sm_C_mono D) (y := 196) (as := [.ref 61, .ref 86, .int (1 : Int32)]) (fr' := (45, [some (.ref 61), some (.int x1)], [], 0, 0)) rfl (T_Mo_areSo (by omega) (by decide) hc ?_)
      show sm_W sm_sh X (sm_C sm_sh X sm_P D) me_203 Q (45, [some (.ref 61), some (.int x1)], [.int r8], 0, 0) (I4, J, sm_rf t d)
      cases h
      exact sm_W.ret (sm_C_mono D) rfl hQ
    refine sm_W.swS (c := (7 : Int32)) (by decide) h (fun h => ?_) (fun h => ?_)
    · refine sm_W.run (sm_C_mono D) 4 (G := True) (fr' := (50, [some (.ref 61), some (.int x1)], [.int (2 : Int32), .ref 86, .ref 61], 0, 0)) (M' := (I4, J, sm_rf t d)) rfl trivial ?_
      obtain ⟨r9, hc, h⟩ := sd_q1_go h
      refine sm_W.cal (sm_C_mono D) (y := 196) (as := [.ref 61, .ref 86, .int (2 : Int32)]) (fr' := (51, [some (.ref 61), some (.int x1)], [], 0, 0)) rfl (T_Mo_areSo (by omega) (by decide) hc ?_)
      show sm_W sm_sh X (sm_C sm_sh X sm_P D) me_203 Q (51, [some (.ref 61), some (.int x1)], [.int r9], 0, 0) (I4, J, sm_rf t d)
      cases h
      exact sm_W.ret (sm_C_mono D) rfl hQ
    refine sm_W.swS (c := (8 : Int32)) (by decide) h (fun h => ?_) (fun h => ?_)
    · refine sm_W.run (sm_C_mono D) 5 (G := True) (fr' := (57, [some (.ref 61), some (.int x1)], [.int (0 : Int32), .ref 86, .ref 61, .ref 61], 0, 0)) (M' := (I4, J, sm_rf t d)) rfl trivial ?_
      obtain ⟨r10, hc, h⟩ := sd_q1_go h
      refine sm_W.cal (sm_C_mono D) (y := 196) (as := [.ref 61, .ref 86, .int (0 : Int32)]) (fr' := (58, [some (.ref 61), some (.int x1)], [.ref 61], 0, 0)) rfl (T_Mo_areSo (by omega) (by decide) hc ?_)
      show sm_W sm_sh X (sm_C sm_sh X sm_P D) me_203 Q (58, [some (.ref 61), some (.int x1)], [.int r10, .ref 61], 0, 0) (I4, J, sm_rf t d)
      obtain ⟨r11, hc, h⟩ := sd_q1_go h
      refine sm_W.cal (sm_C_mono D) (y := 202) (as := [.ref 61, .int r10]) (fr' := (59, [some (.ref 61), some (.int x1)], [], 0, 0)) rfl (T_Mo_sungBy (by omega) hc ?_)
      show sm_W sm_sh X (sm_C sm_sh X sm_P D) me_203 Q (59, [some (.ref 61), some (.int x1)], [.int r11], 0, 0) (I4, J, sm_rf t d)
      cases h
      exact sm_W.ret (sm_C_mono D) rfl hQ
    refine sm_W.swS (c := (9 : Int32)) (by decide) h (fun h => ?_) (fun h => ?_)
    · refine sm_W.run (sm_C_mono D) 2 (G := True) (fr' := (62, [some (.ref 61), some (.int x1)], [.int (I4 61 50)], 0, 0)) (M' := (I4, J, sm_rf t d)) rfl trivial ?_
      cases h
      exact sm_W.ret (sm_C_mono D) rfl hQ
    refine sm_W.swS (c := (10 : Int32)) (by decide) h (fun h => ?_) (fun h => ?_)
    · refine sm_W.run (sm_C_mono D) 2 (G := True) (fr' := (65, [some (.ref 61), some (.int x1)], [.int (I4 61 53)], 0, 0)) (M' := (I4, J, sm_rf t d)) rfl trivial ?_
      cases h
      exact sm_W.ret (sm_C_mono D) rfl hQ
    refine sm_W.swS (c := (11 : Int32)) (by decide) h (fun h => ?_) (fun h => ?_)
    · refine sm_W.run (sm_C_mono D) 2 (G := True) (fr' := (68, [some (.ref 61), some (.int x1)], [.int (I4 61 15)], 0, 0)) (M' := (I4, J, sm_rf t d)) rfl trivial ?_
      cases h
      exact sm_W.ret (sm_C_mono D) rfl hQ
    obtain ⟨g12, h⟩ := sd_gu_go h
    refine sm_W.run (sm_C_mono D) 6 (G := sm_in (x1 - (12 : Int32)) 3 = true ∧ True) (fr' := (75, [some (.ref 61), some (.int x1)], [.int (I4 73 (Int32.toNatClampNeg (x1 - (12 : Int32))))], 0, 0)) (M' := (I4, J, sm_rf t d)) rfl ⟨g12, trivial⟩ ?_
    cases h
    exact sm_W.ret (sm_C_mono D) rfl hQ
  · refine sm_W.run (sm_C_mono D) 1 (G := True) (fr' := (12, [some (.ref 61), some (.int x1)], [.int (0 : Int32)], 0, 0)) (M' := (I4, J, sm_rf t d)) rfl trivial ?_
    cases h
    exact sm_W.ret (sm_C_mono D) rfl hQ
theorem T_Mo_count {X : Nat × (Nat → Int32)} {t d D : Nat} {Q : sm_Q} {I : sm_MI} {J : sm_MJ} {x1 : Int32} {rz : Int32} {Iz : sm_MI}
    (hD : 6 ≤ D) (h : F_Mo_count x1 I = some (rz, Iz)) (hQ : Q (.inl (some (.int rz))) (Iz, J, sm_rf t d)) : sm_C sm_sh X sm_P D 203 [.ref 61, .int x1] (I, J, sm_rf t d) Q := by
  cases D with
  | zero => omega
  | succ D => exact sm_C.of (me := me_203) (L := [some (.ref 61), some (.int x1)]) rfl rfl rfl (sm_W.forget (L' := [some (.ref 61), some (.int x1)]) ⟨rfl, ⟨rfl, trivial⟩⟩ (G_Mo_count (by omega) h hQ))
-- 204 Mo_isSinger
noncomputable def F_Mo_isSinger_10 (s1 : Int32) (I : sm_MI) : Option (Int32 × sm_MI) :=
  sd_q2 (F_Mo_right s1 (1 : Int32) I) fun r1 I2 =>
  some ((vp_nar .boolean r1), I2)
noncomputable def F_Mo_isSinger (x1 : Int32) (I : sm_MI) : Option (Int32 × sm_MI) :=
  if x1 < 0 then
    F_Mo_isSinger_10 (0 : Int32) I
  else
    if (I 61 1) ≤ x1 then
      F_Mo_isSinger_10 (0 : Int32) I
    else
      F_Mo_isSinger_10 (1 : Int32) I
theorem G_Mo_isSinger_10 {X : Nat × (Nat → Int32)} {t d D : Nat} {Q : sm_Q} {I : sm_MI} {J : sm_MJ} {s1 : Int32} {rz : Int32} {Iz : sm_MI}
    (hD : 1 ≤ D) (h : F_Mo_isSinger_10 s1 I = some (rz, Iz)) (hQ : Q (.inl (some (.int rz))) (Iz, J, sm_rf t d))  : sm_W sm_sh X (sm_C sm_sh X sm_P D) me_204 Q (10, [none, none], [.int s1, .ref 61], 0, 0) (I, J, sm_rf t d) := by
  unfold F_Mo_isSinger_10 at h
  refine sm_W.run (sm_C_mono D) 1 (G := True) (fr' := (11, [none, none], [.int (1 : Int32), .int s1, .ref 61], 0, 0)) (M' := (I, J, sm_rf t d)) rfl trivial ?_
  obtain ⟨r1, I2, hc, h⟩ := sd_q2_go h
  refine sm_W.cal (sm_C_mono D) (y := 158) (as := [.ref 61, .int s1, .int (1 : Int32)]) (fr' := (12, [none, none], [], 0, 0)) rfl (T_Mo_right (by omega) hc ?_)
  show sm_W sm_sh X (sm_C sm_sh X sm_P D) me_204 Q (12, [none, none], [.int r1], 0, 0) (I2, J, sm_rf t d)
  cases h
  exact sm_W.ret (sm_C_mono D) rfl hQ
theorem G_Mo_isSinger {X : Nat × (Nat → Int32)} {t d D : Nat} {Q : sm_Q} {I : sm_MI} {J : sm_MJ} {x1 : Int32} {rz : Int32} {Iz : sm_MI}
    (hD : 1 ≤ D) (h : F_Mo_isSinger x1 I = some (rz, Iz)) (hQ : Q (.inl (some (.int rz))) (Iz, J, sm_rf t d))  : sm_W sm_sh X (sm_C sm_sh X sm_P D) me_204 Q (0, [some (.ref 61), some (.int x1)], [], 0, 0) (I, J, sm_rf t d) := by
  unfold F_Mo_isSinger at h
  refine sm_W.run (sm_C_mono D) 3 (G := True) (fr' := (if decide (x1 < 0) = true then 9 else 3, [some (.ref 61), some (.int x1)], [.ref 61], 0, 0)) (M' := (I, J, sm_rf t d)) rfl trivial (sm_W.iteD h (fun hc h => ?_) (fun hc h => ?_))
  · refine sm_W.run (sm_C_mono D) 1 (G := True) (fr' := (10, [some (.ref 61), some (.int x1)], [.int (0 : Int32), .ref 61], 0, 0)) (M' := (I, J, sm_rf t d)) rfl trivial ?_
    exact sm_W.forget (L' := [none, none]) trivial (G_Mo_isSinger_10 hD h hQ)
  · refine sm_W.run (sm_C_mono D) 4 (G := True) (fr' := (if decide ((I 61 1) ≤ x1) = true then 9 else 7, [some (.ref 61), some (.int x1)], [.ref 61], 0, 0)) (M' := (I, J, sm_rf t d)) rfl trivial (sm_W.iteD h (fun hc h => ?_) (fun hc h => ?_))
    · refine sm_W.run (sm_C_mono D) 1 (G := True) (fr' := (10, [some (.ref 61), some (.int x1)], [.int (0 : Int32), .ref 61], 0, 0)) (M' := (I, J, sm_rf t d)) rfl trivial ?_
      exact sm_W.forget (L' := [none, none]) trivial (G_Mo_isSinger_10 hD h hQ)
    · refine sm_W.run (sm_C_mono D) 2 (G := True) (fr' := (10, [some (.ref 61), some (.int x1)], [.int (1 : Int32), .ref 61], 0, 0)) (M' := (I, J, sm_rf t d)) rfl trivial ?_
      exact sm_W.forget (L' := [none, none]) trivial (G_Mo_isSinger_10 hD h hQ)
theorem T_Mo_isSinger {X : Nat × (Nat → Int32)} {t d D : Nat} {Q : sm_Q} {I : sm_MI} {J : sm_MJ} {x1 : Int32} {rz : Int32} {Iz : sm_MI}
    (hD : 2 ≤ D) (h : F_Mo_isSinger x1 I = some (rz, Iz)) (hQ : Q (.inl (some (.int rz))) (Iz, J, sm_rf t d)) : sm_C sm_sh X sm_P D 204 [.ref 61, .int x1] (I, J, sm_rf t d) Q := by
  cases D with
  | zero => omega
  | succ D => exact sm_C.of (me := me_204) (L := [some (.ref 61), some (.int x1)]) rfl rfl rfl (sm_W.forget (L' := [some (.ref 61), some (.int x1)]) ⟨rfl, ⟨rfl, trivial⟩⟩ (G_Mo_isSinger (by omega) h hQ))
-- 205 Mo_isPiece
noncomputable def F_Mo_isPiece_10 (s1 : Int32) (I : sm_MI) : Option (Int32 × sm_MI) :=
  sd_q2 (F_Mo_right s1 (1 : Int32) I) fun r1 I2 =>
  some ((vp_nar .boolean r1), I2)
noncomputable def F_Mo_isPiece (x1 : Int32) (I : sm_MI) : Option (Int32 × sm_MI) :=
  if x1 < 0 then
    F_Mo_isPiece_10 (0 : Int32) I
  else
    if (I 61 2) ≤ x1 then
      F_Mo_isPiece_10 (0 : Int32) I
    else
      F_Mo_isPiece_10 (1 : Int32) I
theorem G_Mo_isPiece_10 {X : Nat × (Nat → Int32)} {t d D : Nat} {Q : sm_Q} {I : sm_MI} {J : sm_MJ} {s1 : Int32} {rz : Int32} {Iz : sm_MI}
    (hD : 1 ≤ D) (h : F_Mo_isPiece_10 s1 I = some (rz, Iz)) (hQ : Q (.inl (some (.int rz))) (Iz, J, sm_rf t d))  : sm_W sm_sh X (sm_C sm_sh X sm_P D) me_205 Q (10, [none, none], [.int s1, .ref 61], 0, 0) (I, J, sm_rf t d) := by
  unfold F_Mo_isPiece_10 at h
  refine sm_W.run (sm_C_mono D) 1 (G := True) (fr' := (11, [none, none], [.int (1 : Int32), .int s1, .ref 61], 0, 0)) (M' := (I, J, sm_rf t d)) rfl trivial ?_
  obtain ⟨r1, I2, hc, h⟩ := sd_q2_go h
  refine sm_W.cal (sm_C_mono D) (y := 158) (as := [.ref 61, .int s1, .int (1 : Int32)]) (fr' := (12, [none, none], [], 0, 0)) rfl (T_Mo_right (by omega) hc ?_)
  show sm_W sm_sh X (sm_C sm_sh X sm_P D) me_205 Q (12, [none, none], [.int r1], 0, 0) (I2, J, sm_rf t d)
  cases h
  exact sm_W.ret (sm_C_mono D) rfl hQ
theorem G_Mo_isPiece {X : Nat × (Nat → Int32)} {t d D : Nat} {Q : sm_Q} {I : sm_MI} {J : sm_MJ} {x1 : Int32} {rz : Int32} {Iz : sm_MI}
    (hD : 1 ≤ D) (h : F_Mo_isPiece x1 I = some (rz, Iz)) (hQ : Q (.inl (some (.int rz))) (Iz, J, sm_rf t d))  : sm_W sm_sh X (sm_C sm_sh X sm_P D) me_205 Q (0, [some (.ref 61), some (.int x1)], [], 0, 0) (I, J, sm_rf t d) := by
  unfold F_Mo_isPiece at h
  refine sm_W.run (sm_C_mono D) 3 (G := True) (fr' := (if decide (x1 < 0) = true then 9 else 3, [some (.ref 61), some (.int x1)], [.ref 61], 0, 0)) (M' := (I, J, sm_rf t d)) rfl trivial (sm_W.iteD h (fun hc h => ?_) (fun hc h => ?_))
  · refine sm_W.run (sm_C_mono D) 1 (G := True) (fr' := (10, [some (.ref 61), some (.int x1)], [.int (0 : Int32), .ref 61], 0, 0)) (M' := (I, J, sm_rf t d)) rfl trivial ?_
    exact sm_W.forget (L' := [none, none]) trivial (G_Mo_isPiece_10 hD h hQ)
  · refine sm_W.run (sm_C_mono D) 4 (G := True) (fr' := (if decide ((I 61 2) ≤ x1) = true then 9 else 7, [some (.ref 61), some (.int x1)], [.ref 61], 0, 0)) (M' := (I, J, sm_rf t d)) rfl trivial (sm_W.iteD h (fun hc h => ?_) (fun hc h => ?_))
    · refine sm_W.run (sm_C_mono D) 1 (G := True) (fr' := (10, [some (.ref 61), some (.int x1)], [.int (0 : Int32), .ref 61], 0, 0)) (M' := (I, J, sm_rf t d)) rfl trivial ?_
      exact sm_W.forget (L' := [none, none]) trivial (G_Mo_isPiece_10 hD h hQ)
    · refine sm_W.run (sm_C_mono D) 2 (G := True) (fr' := (10, [some (.ref 61), some (.int x1)], [.int (1 : Int32), .ref 61], 0, 0)) (M' := (I, J, sm_rf t d)) rfl trivial ?_
      exact sm_W.forget (L' := [none, none]) trivial (G_Mo_isPiece_10 hD h hQ)
theorem T_Mo_isPiece {X : Nat × (Nat → Int32)} {t d D : Nat} {Q : sm_Q} {I : sm_MI} {J : sm_MJ} {x1 : Int32} {rz : Int32} {Iz : sm_MI}
    (hD : 2 ≤ D) (h : F_Mo_isPiece x1 I = some (rz, Iz)) (hQ : Q (.inl (some (.int rz))) (Iz, J, sm_rf t d)) : sm_C sm_sh X sm_P D 205 [.ref 61, .int x1] (I, J, sm_rf t d) Q := by
  cases D with
  | zero => omega
  | succ D => exact sm_C.of (me := me_205) (L := [some (.ref 61), some (.int x1)]) rfl rfl rfl (sm_W.forget (L' := [some (.ref 61), some (.int x1)]) ⟨rfl, ⟨rfl, trivial⟩⟩ (G_Mo_isPiece (by omega) h hQ))
-- 206 Mo_isWhat
noncomputable def F_Mo_isWhat (x1 : Int32) (x2 : Int32) (I : sm_MI) : Option (Int32 × sm_MI) :=
  sd_q1 (F_Mo_within x1 (0 : Int32) x2) fun r1 =>
  sd_q2 (F_Mo_right r1 (1 : Int32) I) fun r2 I3 =>
  some ((vp_nar .boolean r2), I3)
theorem G_Mo_isWhat {X : Nat × (Nat → Int32)} {t d D : Nat} {Q : sm_Q} {I : sm_MI} {J : sm_MJ} {x1 : Int32} {x2 : Int32} {rz : Int32} {Iz : sm_MI}
    (hD : 1 ≤ D) (h : F_Mo_isWhat x1 x2 I = some (rz, Iz)) (hQ : Q (.inl (some (.int rz))) (Iz, J, sm_rf t d))  : sm_W sm_sh X (sm_C sm_sh X sm_P D) me_206 Q (0, [some (.ref 61), some (.int x1), some (.int x2)], [], 0, 0) (I, J, sm_rf t d) := by
  unfold F_Mo_isWhat at h
  refine sm_W.run (sm_C_mono D) 4 (G := True) (fr' := (4, [some (.ref 61), some (.int x1), some (.int x2)], [.int x2, .int (0 : Int32), .int x1, .ref 61], 0, 0)) (M' := (I, J, sm_rf t d)) rfl trivial ?_
  obtain ⟨r1, hc, h⟩ := sd_q1_go h
  refine sm_W.cal (sm_C_mono D) (y := 159) (as := [.int x1, .int (0 : Int32), .int x2]) (fr' := (5, [some (.ref 61), some (.int x1), some (.int x2)], [.ref 61], 0, 0)) rfl (T_Mo_within (by omega) hc ?_)
  show sm_W sm_sh X (sm_C sm_sh X sm_P D) me_206 Q (5, [some (.ref 61), some (.int x1), some (.int x2)], [.int r1, .ref 61], 0, 0) (I, J, sm_rf t d)
  refine sm_W.run (sm_C_mono D) 1 (G := True) (fr' := (6, [some (.ref 61), some (.int x1), some (.int x2)], [.int (1 : Int32), .int r1, .ref 61], 0, 0)) (M' := (I, J, sm_rf t d)) rfl trivial ?_
  obtain ⟨r2, I3, hc, h⟩ := sd_q2_go h
  refine sm_W.cal (sm_C_mono D) (y := 158) (as := [.ref 61, .int r1, .int (1 : Int32)]) (fr' := (7, [some (.ref 61), some (.int x1), some (.int x2)], [], 0, 0)) rfl (T_Mo_right (by omega) hc ?_)
  show sm_W sm_sh X (sm_C sm_sh X sm_P D) me_206 Q (7, [some (.ref 61), some (.int x1), some (.int x2)], [.int r2], 0, 0) (I3, J, sm_rf t d)
  cases h
  exact sm_W.ret (sm_C_mono D) rfl hQ
theorem T_Mo_isWhat {X : Nat × (Nat → Int32)} {t d D : Nat} {Q : sm_Q} {I : sm_MI} {J : sm_MJ} {x1 : Int32} {x2 : Int32} {rz : Int32} {Iz : sm_MI}
    (hD : 2 ≤ D) (h : F_Mo_isWhat x1 x2 I = some (rz, Iz)) (hQ : Q (.inl (some (.int rz))) (Iz, J, sm_rf t d)) : sm_C sm_sh X sm_P D 206 [.ref 61, .int x1, .int x2] (I, J, sm_rf t d) Q := by
  cases D with
  | zero => omega
  | succ D => exact sm_C.of (me := me_206) (L := [some (.ref 61), some (.int x1), some (.int x2)]) rfl rfl rfl (sm_W.forget (L' := [some (.ref 61), some (.int x1), some (.int x2)]) ⟨rfl, ⟨rfl, ⟨rfl, trivial⟩⟩⟩ (G_Mo_isWhat (by omega) h hQ))
-- 207 Mo_singer
noncomputable def F_Mo_singer (x1 : Int32) (x2 : Int32) (I : sm_MI) : Option (Int32 × sm_MI) :=
  sd_lt (sd_up I 61 0 (0 : Int32)) fun I1 =>
  sd_q2 (F_Mo_isSinger x1 I1) fun r2 I3 =>
  if r2 = 0 then
    some ((0 : Int32), I3)
  else
    sd_q2 (F_Mo_isWhat x2 (5 : Int32) I3) fun r4 I5 =>
    if ¬ r4 = 0 then
      if x2 = (0 : Int32) then
        sd_gu (sm_in x1 14 = true) <|
        some ((I5 62 (Int32.toNatClampNeg x1)), I5)
      else if x2 = (1 : Int32) then
        sd_gu (sm_in x1 14 = true) <|
        some ((I5 63 (Int32.toNatClampNeg x1)), I5)
      else if x2 = (2 : Int32) then
        sd_gu (sm_in x1 14 = true) <|
        some ((I5 64 (Int32.toNatClampNeg x1)), I5)
      else if x2 = (3 : Int32) then
        sd_gu (sm_in x1 14 = true) <|
        some ((I5 65 (Int32.toNatClampNeg x1)), I5)
      else if x2 = (4 : Int32) then
        sd_gu (sm_in x1 14 = true) <|
        some ((I5 66 (Int32.toNatClampNeg x1)), I5)
      else 
        sd_gu (sm_in x1 16 = true) <|
        some ((I5 86 (Int32.toNatClampNeg x1)), I5)
    else
      some ((0 : Int32), I5)
theorem G_Mo_singer {X : Nat × (Nat → Int32)} {t d D : Nat} {Q : sm_Q} {I : sm_MI} {J : sm_MJ} {x1 : Int32} {x2 : Int32} {rz : Int32} {Iz : sm_MI}
    (hD : 2 ≤ D) (h : F_Mo_singer x1 x2 I = some (rz, Iz)) (hQ : Q (.inl (some (.int rz))) (Iz, J, sm_rf t d))  : sm_W sm_sh X (sm_C sm_sh X sm_P D) me_207 Q (0, [some (.ref 61), some (.int x1), some (.int x2)], [], 0, 0) (I, J, sm_rf t d) := by
  unfold F_Mo_singer at h
  refine sm_W.runL (sm_C_mono D) 3 (G := True) (e := (sd_up I 61 0 (0 : Int32))) (fr' := fun _ => (3, [some (.ref 61), some (.int x1), some (.int x2)], [], 0, 0)) (M' := fun I1 => (I1, J, sm_rf t d)) rfl h trivial (fun I1 h => ?_)
  refine sm_W.run (sm_C_mono D) 2 (G := True) (fr' := (5, [some (.ref 61), some (.int x1), some (.int x2)], [.int x1, .ref 61], 0, 0)) (M' := (I1, J, sm_rf t d)) rfl trivial ?_
  obtain ⟨r2, I3, hc, h⟩ := sd_q2_go h
  refine sm_W.cal (sm_C_mono D) (y := 204) (as := [.ref 61, .int x1]) (fr' := (6, [some (.ref 61), some (.int x1), some (.int x2)], [], 0, 0)) rfl (T_Mo_isSinger (by omega) hc ?_)
  show sm_W sm_sh X (sm_C sm_sh X sm_P D) me_207 Q (6, [some (.ref 61), some (.int x1), some (.int x2)], [.int r2], 0, 0) (I3, J, sm_rf t d)
  refine sm_W.run (sm_C_mono D) 1 (G := True) (fr' := (if decide (r2 = 0) = true then 12 else 7, [some (.ref 61), some (.int x1), some (.int x2)], [], 0, 0)) (M' := (I3, J, sm_rf t d)) rfl trivial (sm_W.iteD h (fun hc h => ?_) (fun hc h => ?_))
  · refine sm_W.run (sm_C_mono D) 1 (G := True) (fr' := (13, [some (.ref 61), some (.int x1), some (.int x2)], [.int (0 : Int32)], 0, 0)) (M' := (I3, J, sm_rf t d)) rfl trivial ?_
    cases h
    exact sm_W.ret (sm_C_mono D) rfl hQ
  · refine sm_W.run (sm_C_mono D) 3 (G := True) (fr' := (10, [some (.ref 61), some (.int x1), some (.int x2)], [.int (5 : Int32), .int x2, .ref 61], 0, 0)) (M' := (I3, J, sm_rf t d)) rfl trivial ?_
    obtain ⟨r4, I5, hc, h⟩ := sd_q2_go h
    refine sm_W.cal (sm_C_mono D) (y := 206) (as := [.ref 61, .int x2, .int (5 : Int32)]) (fr' := (11, [some (.ref 61), some (.int x1), some (.int x2)], [], 0, 0)) rfl (T_Mo_isWhat (by omega) hc ?_)
    show sm_W sm_sh X (sm_C sm_sh X sm_P D) me_207 Q (11, [some (.ref 61), some (.int x1), some (.int x2)], [.int r4], 0, 0) (I5, J, sm_rf t d)
    refine sm_W.run (sm_C_mono D) 1 (G := True) (fr' := (if decide (¬ r4 = 0) = true then 14 else 12, [some (.ref 61), some (.int x1), some (.int x2)], [], 0, 0)) (M' := (I5, J, sm_rf t d)) rfl trivial (sm_W.iteD h (fun hc h => ?_) (fun hc h => ?_))
    · refine sm_W.run (sm_C_mono D) 2 (G := True) (fr' := (sm_sw (Int32.toInt x2) (0) [16, 21, 26, 31, 36] 41, [some (.ref 61), some (.int x1), some (.int x2)], [], 0, 0)) (M' := (I5, J, sm_rf t d)) rfl trivial ?_
      rw [sd_sw_eq]
      refine sm_W.swS (c := (0 : Int32)) (by decide) h (fun h => ?_) (fun h => ?_)
      · obtain ⟨g6, h⟩ := sd_gu_go h
        refine sm_W.run (sm_C_mono D) 4 (G := sm_in x1 14 = true ∧ True) (fr' := (20, [some (.ref 61), some (.int x1), some (.int x2)], [.int (I5 62 (Int32.toNatClampNeg x1))], 0, 0)) (M' := (I5, J, sm_rf t d)) rfl ⟨g6, trivial⟩ ?_
        cases h
        exact sm_W.ret (sm_C_mono D) rfl hQ
      refine sm_W.swS (c := (1 : Int32)) (by decide) h (fun h => ?_) (fun h => ?_)
      · obtain ⟨g7, h⟩ := sd_gu_go h
        refine sm_W.run (sm_C_mono D) 4 (G := sm_in x1 14 = true ∧ True) (fr' := (25, [some (.ref 61), some (.int x1), some (.int x2)], [.int (I5 63 (Int32.toNatClampNeg x1))], 0, 0)) (M' := (I5, J, sm_rf t d)) rfl ⟨g7, trivial⟩ ?_
        cases h
        exact sm_W.ret (sm_C_mono D) rfl hQ
      refine sm_W.swS (c := (2 : Int32)) (by decide) h (fun h => ?_) (fun h => ?_)
      · obtain ⟨g8, h⟩ := sd_gu_go h
        refine sm_W.run (sm_C_mono D) 4 (G := sm_in x1 14 = true ∧ True) (fr' := (30, [some (.ref 61), some (.int x1), some (.int x2)], [.int (I5 64 (Int32.toNatClampNeg x1))], 0, 0)) (M' := (I5, J, sm_rf t d)) rfl ⟨g8, trivial⟩ ?_
        cases h
        exact sm_W.ret (sm_C_mono D) rfl hQ
      refine sm_W.swS (c := (3 : Int32)) (by decide) h (fun h => ?_) (fun h => ?_)
      · obtain ⟨g9, h⟩ := sd_gu_go h
        refine sm_W.run (sm_C_mono D) 4 (G := sm_in x1 14 = true ∧ True) (fr' := (35, [some (.ref 61), some (.int x1), some (.int x2)], [.int (I5 65 (Int32.toNatClampNeg x1))], 0, 0)) (M' := (I5, J, sm_rf t d)) rfl ⟨g9, trivial⟩ ?_
        cases h
        exact sm_W.ret (sm_C_mono D) rfl hQ
      refine sm_W.swS (c := (4 : Int32)) (by decide) h (fun h => ?_) (fun h => ?_)
      · obtain ⟨g10, h⟩ := sd_gu_go h
        refine sm_W.run (sm_C_mono D) 4 (G := sm_in x1 14 = true ∧ True) (fr' := (40, [some (.ref 61), some (.int x1), some (.int x2)], [.int (I5 66 (Int32.toNatClampNeg x1))], 0, 0)) (M' := (I5, J, sm_rf t d)) rfl ⟨g10, trivial⟩ ?_
        cases h
        exact sm_W.ret (sm_C_mono D) rfl hQ
      obtain ⟨g11, h⟩ := sd_gu_go h
      refine sm_W.run (sm_C_mono D) 4 (G := sm_in x1 16 = true ∧ True) (fr' := (45, [some (.ref 61), some (.int x1), some (.int x2)], [.int (I5 86 (Int32.toNatClampNeg x1))], 0, 0)) (M' := (I5, J, sm_rf t d)) rfl ⟨g11, trivial⟩ ?_
      cases h
      exact sm_W.ret (sm_C_mono D) rfl hQ
    · refine sm_W.run (sm_C_mono D) 1 (G := True) (fr' := (13, [some (.ref 61), some (.int x1), some (.int x2)], [.int (0 : Int32)], 0, 0)) (M' := (I5, J, sm_rf t d)) rfl trivial ?_
      cases h
      exact sm_W.ret (sm_C_mono D) rfl hQ
theorem T_Mo_singer {X : Nat × (Nat → Int32)} {t d D : Nat} {Q : sm_Q} {I : sm_MI} {J : sm_MJ} {x1 : Int32} {x2 : Int32} {rz : Int32} {Iz : sm_MI}
    (hD : 3 ≤ D) (h : F_Mo_singer x1 x2 I = some (rz, Iz)) (hQ : Q (.inl (some (.int rz))) (Iz, J, sm_rf t d)) : sm_C sm_sh X sm_P D 207 [.ref 61, .int x1, .int x2] (I, J, sm_rf t d) Q := by
  cases D with
  | zero => omega
  | succ D => exact sm_C.of (me := me_207) (L := [some (.ref 61), some (.int x1), some (.int x2)]) rfl rfl rfl (sm_W.forget (L' := [some (.ref 61), some (.int x1), some (.int x2)]) ⟨rfl, ⟨rfl, ⟨rfl, trivial⟩⟩⟩ (G_Mo_singer (by omega) h hQ))
-- 208 Mo_notesOf
noncomputable def F_Mo_notesOf (x1 : Int32) (I : sm_MI) : Option (Int32) :=
  sd_gu (sm_in x1 20 = true) <|
  if ¬ (I 67 (Int32.toNatClampNeg x1)) = 0 then
    sd_gu (sm_in x1 20 = true) <|
    some ((I 68 (Int32.toNatClampNeg x1)))
  else
    some ((0 : Int32))
theorem G_Mo_notesOf {X : Nat × (Nat → Int32)} {t d D : Nat} {Q : sm_Q} {I : sm_MI} {J : sm_MJ} {x1 : Int32} {rz : Int32}
    (hD : 0 ≤ D) (h : F_Mo_notesOf x1 I = some (rz)) (hQ : Q (.inl (some (.int rz))) (I, J, sm_rf t d))  : sm_W sm_sh X (sm_C sm_sh X sm_P D) me_208 Q (0, [some (.ref 61), some (.int x1)], [], 0, 0) (I, J, sm_rf t d) := by
  unfold F_Mo_notesOf at h
  obtain ⟨g1, h⟩ := sd_gu_go h
  refine sm_W.run (sm_C_mono D) 5 (G := sm_in x1 20 = true ∧ True) (fr' := (if decide (¬ (I 67 (Int32.toNatClampNeg x1)) = 0) = true then 7 else 5, [some (.ref 61), some (.int x1)], [], 0, 0)) (M' := (I, J, sm_rf t d)) rfl ⟨g1, trivial⟩ (sm_W.iteD h (fun hc h => ?_) (fun hc h => ?_))
  · obtain ⟨g2, h⟩ := sd_gu_go h
    refine sm_W.run (sm_C_mono D) 4 (G := sm_in x1 20 = true ∧ True) (fr' := (11, [some (.ref 61), some (.int x1)], [.int (I 68 (Int32.toNatClampNeg x1))], 0, 0)) (M' := (I, J, sm_rf t d)) rfl ⟨g2, trivial⟩ ?_
    cases h
    exact sm_W.ret (sm_C_mono D) rfl hQ
  · refine sm_W.run (sm_C_mono D) 2 (G := True) (fr' := (11, [some (.ref 61), some (.int x1)], [.int (0 : Int32)], 0, 0)) (M' := (I, J, sm_rf t d)) rfl trivial ?_
    cases h
    exact sm_W.ret (sm_C_mono D) rfl hQ
theorem T_Mo_notesOf {X : Nat × (Nat → Int32)} {t d D : Nat} {Q : sm_Q} {I : sm_MI} {J : sm_MJ} {x1 : Int32} {rz : Int32}
    (hD : 1 ≤ D) (h : F_Mo_notesOf x1 I = some (rz)) (hQ : Q (.inl (some (.int rz))) (I, J, sm_rf t d)) : sm_C sm_sh X sm_P D 208 [.ref 61, .int x1] (I, J, sm_rf t d) Q := by
  cases D with
  | zero => omega
  | succ D => exact sm_C.of (me := me_208) (L := [some (.ref 61), some (.int x1)]) rfl rfl rfl (sm_W.forget (L' := [some (.ref 61), some (.int x1)]) ⟨rfl, ⟨rfl, trivial⟩⟩ (G_Mo_notesOf (by omega) h hQ))
-- 209 Mo_row
noncomputable def F_Mo_row_32 (x3 : Int32) (x4 : Int32) (s1 : Int32) (I : sm_MI) : Option (Int32 × sm_MI) :=
  sd_q2 (F_Mo_right s1 (1 : Int32) I) fun r1 I2 =>
  if ¬ r1 = 0 then
    if ¬ x3 = (-1 : Int32) then
      if ¬ x3 = (-2 : Int32) then
        sd_gu (sm_in (((12 : Int32) * x4) + x3) 240 = true) <|
        some ((I2 69 (Int32.toNatClampNeg (((12 : Int32) * x4) + x3))), I2)
      else
        sd_q1 (F_Mo_notesOf x4 I2) fun r4 =>
        some (r4, I2)
    else
      sd_gu (sm_in x4 20 = true) <|
      some ((I2 67 (Int32.toNatClampNeg x4)), I2)
  else
    some ((0 : Int32), I2)
noncomputable def F_Mo_row (x1 : Int32) (x2 : Int32) (x3 : Int32) (I : sm_MI) : Option (Int32 × sm_MI) :=
  sd_lt (sd_up I 61 0 (0 : Int32)) fun I1 =>
  sd_q2 (F_Mo_isPiece x1 I1) fun r2 I3 =>
  if r2 = 0 then
    some ((0 : Int32), I3)
  else
    sd_q2 (F_Mo_isWhat x2 (3 : Int32) I3) fun r4 I5 =>
    if ¬ r4 = 0 then
      sd_lt (((4 : Int32) * x1) + x2) fun a6 =>
      if x3 < (-2 : Int32) then
        F_Mo_row_32 x3 a6 (0 : Int32) I5
      else
        sd_q1 (F_Mo_notesOf a6 I5) fun r7 =>
        if r7 ≤ x3 then
          F_Mo_row_32 x3 a6 (0 : Int32) I5
        else
          F_Mo_row_32 x3 a6 (1 : Int32) I5
    else
      some ((0 : Int32), I5)
theorem G_Mo_row_32 {X : Nat × (Nat → Int32)} {t d D : Nat} {Q : sm_Q} {I : sm_MI} {J : sm_MJ} {x3 : Int32} {x4 : Int32} {s1 : Int32} {rz : Int32} {Iz : sm_MI}
    (hD : 2 ≤ D) (h : F_Mo_row_32 x3 x4 s1 I = some (rz, Iz)) (hQ : Q (.inl (some (.int rz))) (Iz, J, sm_rf t d))  : sm_W sm_sh X (sm_C sm_sh X sm_P D) me_209 Q (32, [some (.ref 61), none, none, some (.int x3), some (.int x4)], [.int s1, .ref 61], 0, 0) (I, J, sm_rf t d) := by
  unfold F_Mo_row_32 at h
  refine sm_W.run (sm_C_mono D) 1 (G := True) (fr' := (33, [some (.ref 61), none, none, some (.int x3), some (.int x4)], [.int (1 : Int32), .int s1, .ref 61], 0, 0)) (M' := (I, J, sm_rf t d)) rfl trivial ?_
  obtain ⟨r1, I2, hc, h⟩ := sd_q2_go h
  refine sm_W.cal (sm_C_mono D) (y := 158) (as := [.ref 61, .int s1, .int (1 : Int32)]) (fr' := (34, [some (.ref 61), none, none, some (.int x3), some (.int x4)], [], 0, 0)) rfl (T_Mo_right (by omega) hc ?_)
  show sm_W sm_sh X (sm_C sm_sh X sm_P D) me_209 Q (34, [some (.ref 61), none, none, some (.int x3), some (.int x4)], [.int r1], 0, 0) (I2, J, sm_rf t d)
  refine sm_W.run (sm_C_mono D) 1 (G := True) (fr' := (if decide (¬ r1 = 0) = true then 37 else 35, [some (.ref 61), none, none, some (.int x3), some (.int x4)], [], 0, 0)) (M' := (I2, J, sm_rf t d)) rfl trivial (sm_W.iteD h (fun hc h => ?_) (fun hc h => ?_))
  · refine sm_W.run (sm_C_mono D) 3 (G := True) (fr' := (if decide (¬ x3 = (-1 : Int32)) = true then 45 else 40, [some (.ref 61), none, none, some (.int x3), some (.int x4)], [], 0, 0)) (M' := (I2, J, sm_rf t d)) rfl trivial (sm_W.iteD h (fun hc h => ?_) (fun hc h => ?_))
    · refine sm_W.run (sm_C_mono D) 3 (G := True) (fr' := (if decide (¬ x3 = (-2 : Int32)) = true then 52 else 48, [some (.ref 61), none, none, some (.int x3), some (.int x4)], [], 0, 0)) (M' := (I2, J, sm_rf t d)) rfl trivial (sm_W.iteD h (fun hc h => ?_) (fun hc h => ?_))
      · obtain ⟨g3, h⟩ := sd_gu_go h
        refine sm_W.run (sm_C_mono D) 8 (G := sm_in (((12 : Int32) * x4) + x3) 240 = true ∧ True) (fr' := (60, [some (.ref 61), none, none, some (.int x3), some (.int x4)], [.int (I2 69 (Int32.toNatClampNeg (((12 : Int32) * x4) + x3)))], 0, 0)) (M' := (I2, J, sm_rf t d)) rfl ⟨g3, trivial⟩ ?_
        cases h
        exact sm_W.ret (sm_C_mono D) rfl hQ
      · refine sm_W.run (sm_C_mono D) 2 (G := True) (fr' := (50, [some (.ref 61), none, none, some (.int x3), some (.int x4)], [.int x4, .ref 61], 0, 0)) (M' := (I2, J, sm_rf t d)) rfl trivial ?_
        obtain ⟨r4, hc, h⟩ := sd_q1_go h
        refine sm_W.cal (sm_C_mono D) (y := 208) (as := [.ref 61, .int x4]) (fr' := (51, [some (.ref 61), none, none, some (.int x3), some (.int x4)], [], 0, 0)) rfl (T_Mo_notesOf (by omega) hc ?_)
        show sm_W sm_sh X (sm_C sm_sh X sm_P D) me_209 Q (51, [some (.ref 61), none, none, some (.int x3), some (.int x4)], [.int r4], 0, 0) (I2, J, sm_rf t d)
        refine sm_W.run (sm_C_mono D) 1 (G := True) (fr' := (60, [some (.ref 61), none, none, some (.int x3), some (.int x4)], [.int r4], 0, 0)) (M' := (I2, J, sm_rf t d)) rfl trivial ?_
        cases h
        exact sm_W.ret (sm_C_mono D) rfl hQ
    · obtain ⟨g5, h⟩ := sd_gu_go h
      refine sm_W.run (sm_C_mono D) 5 (G := sm_in x4 20 = true ∧ True) (fr' := (60, [some (.ref 61), none, none, some (.int x3), some (.int x4)], [.int (I2 67 (Int32.toNatClampNeg x4))], 0, 0)) (M' := (I2, J, sm_rf t d)) rfl ⟨g5, trivial⟩ ?_
      cases h
      exact sm_W.ret (sm_C_mono D) rfl hQ
  · refine sm_W.run (sm_C_mono D) 1 (G := True) (fr' := (36, [some (.ref 61), none, none, some (.int x3), some (.int x4)], [.int (0 : Int32)], 0, 0)) (M' := (I2, J, sm_rf t d)) rfl trivial ?_
    cases h
    exact sm_W.ret (sm_C_mono D) rfl hQ
theorem G_Mo_row {X : Nat × (Nat → Int32)} {t d D : Nat} {Q : sm_Q} {I : sm_MI} {J : sm_MJ} {x1 : Int32} {x2 : Int32} {x3 : Int32} {rz : Int32} {Iz : sm_MI}
    (hD : 2 ≤ D) (h : F_Mo_row x1 x2 x3 I = some (rz, Iz)) (hQ : Q (.inl (some (.int rz))) (Iz, J, sm_rf t d))  : sm_W sm_sh X (sm_C sm_sh X sm_P D) me_209 Q (0, [some (.ref 61), some (.int x1), some (.int x2), some (.int x3), none], [], 0, 0) (I, J, sm_rf t d) := by
  unfold F_Mo_row at h
  refine sm_W.runL (sm_C_mono D) 3 (G := True) (e := (sd_up I 61 0 (0 : Int32))) (fr' := fun _ => (3, [some (.ref 61), some (.int x1), some (.int x2), some (.int x3), none], [], 0, 0)) (M' := fun I1 => (I1, J, sm_rf t d)) rfl h trivial (fun I1 h => ?_)
  refine sm_W.run (sm_C_mono D) 2 (G := True) (fr' := (5, [some (.ref 61), some (.int x1), some (.int x2), some (.int x3), none], [.int x1, .ref 61], 0, 0)) (M' := (I1, J, sm_rf t d)) rfl trivial ?_
  obtain ⟨r2, I3, hc, h⟩ := sd_q2_go h
  refine sm_W.cal (sm_C_mono D) (y := 205) (as := [.ref 61, .int x1]) (fr' := (6, [some (.ref 61), some (.int x1), some (.int x2), some (.int x3), none], [], 0, 0)) rfl (T_Mo_isPiece (by omega) hc ?_)
  show sm_W sm_sh X (sm_C sm_sh X sm_P D) me_209 Q (6, [some (.ref 61), some (.int x1), some (.int x2), some (.int x3), none], [.int r2], 0, 0) (I3, J, sm_rf t d)
  refine sm_W.run (sm_C_mono D) 1 (G := True) (fr' := (if decide (r2 = 0) = true then 12 else 7, [some (.ref 61), some (.int x1), some (.int x2), some (.int x3), none], [], 0, 0)) (M' := (I3, J, sm_rf t d)) rfl trivial (sm_W.iteD h (fun hc h => ?_) (fun hc h => ?_))
  · refine sm_W.run (sm_C_mono D) 1 (G := True) (fr' := (13, [some (.ref 61), some (.int x1), some (.int x2), some (.int x3), none], [.int (0 : Int32)], 0, 0)) (M' := (I3, J, sm_rf t d)) rfl trivial ?_
    cases h
    exact sm_W.ret (sm_C_mono D) rfl hQ
  · refine sm_W.run (sm_C_mono D) 3 (G := True) (fr' := (10, [some (.ref 61), some (.int x1), some (.int x2), some (.int x3), none], [.int (3 : Int32), .int x2, .ref 61], 0, 0)) (M' := (I3, J, sm_rf t d)) rfl trivial ?_
    obtain ⟨r4, I5, hc, h⟩ := sd_q2_go h
    refine sm_W.cal (sm_C_mono D) (y := 206) (as := [.ref 61, .int x2, .int (3 : Int32)]) (fr' := (11, [some (.ref 61), some (.int x1), some (.int x2), some (.int x3), none], [], 0, 0)) rfl (T_Mo_isWhat (by omega) hc ?_)
    show sm_W sm_sh X (sm_C sm_sh X sm_P D) me_209 Q (11, [some (.ref 61), some (.int x1), some (.int x2), some (.int x3), none], [.int r4], 0, 0) (I5, J, sm_rf t d)
    refine sm_W.run (sm_C_mono D) 1 (G := True) (fr' := (if decide (¬ r4 = 0) = true then 14 else 12, [some (.ref 61), some (.int x1), some (.int x2), some (.int x3), none], [], 0, 0)) (M' := (I5, J, sm_rf t d)) rfl trivial (sm_W.iteD h (fun hc h => ?_) (fun hc h => ?_))
    · refine sm_W.runL (sm_C_mono D) 6 (G := True) (e := (((4 : Int32) * x1) + x2)) (fr' := fun a6 => (20, [some (.ref 61), some (.int x1), some (.int x2), some (.int x3), some (.int a6)], [], 0, 0)) (M' := fun _ => (I5, J, sm_rf t d)) rfl h trivial (fun a6 h => ?_)
      refine sm_W.run (sm_C_mono D) 4 (G := True) (fr' := (if decide (x3 < (-2 : Int32)) = true then 31 else 24, [some (.ref 61), some (.int x1), some (.int x2), some (.int x3), some (.int a6)], [.ref 61], 0, 0)) (M' := (I5, J, sm_rf t d)) rfl trivial (sm_W.iteD h (fun hc h => ?_) (fun hc h => ?_))
      · refine sm_W.run (sm_C_mono D) 1 (G := True) (fr' := (32, [some (.ref 61), some (.int x1), some (.int x2), some (.int x3), some (.int a6)], [.int (0 : Int32), .ref 61], 0, 0)) (M' := (I5, J, sm_rf t d)) rfl trivial ?_
        exact sm_W.forget (L' := [some (.ref 61), none, none, some (.int x3), some (.int a6)]) ⟨rfl, ⟨rfl, ⟨rfl, trivial⟩⟩⟩ (G_Mo_row_32 hD h hQ)
      · refine sm_W.run (sm_C_mono D) 3 (G := True) (fr' := (27, [some (.ref 61), some (.int x1), some (.int x2), some (.int x3), some (.int a6)], [.int a6, .ref 61, .int x3, .ref 61], 0, 0)) (M' := (I5, J, sm_rf t d)) rfl trivial ?_
        obtain ⟨r7, hc, h⟩ := sd_q1_go h
        refine sm_W.cal (sm_C_mono D) (y := 208) (as := [.ref 61, .int a6]) (fr' := (28, [some (.ref 61), some (.int x1), some (.int x2), some (.int x3), some (.int a6)], [.int x3, .ref 61], 0, 0)) rfl (T_Mo_notesOf (by omega) hc ?_)
        show sm_W sm_sh X (sm_C sm_sh X sm_P D) me_209 Q (28, [some (.ref 61), some (.int x1), some (.int x2), some (.int x3), some (.int a6)], [.int r7, .int x3, .ref 61], 0, 0) (I5, J, sm_rf t d)
        refine sm_W.run (sm_C_mono D) 1 (G := True) (fr' := (if decide (r7 ≤ x3) = true then 31 else 29, [some (.ref 61), some (.int x1), some (.int x2), some (.int x3), some (.int a6)], [.ref 61], 0, 0)) (M' := (I5, J, sm_rf t d)) rfl trivial (sm_W.iteD h (fun hc h => ?_) (fun hc h => ?_))
        · refine sm_W.run (sm_C_mono D) 1 (G := True) (fr' := (32, [some (.ref 61), some (.int x1), some (.int x2), some (.int x3), some (.int a6)], [.int (0 : Int32), .ref 61], 0, 0)) (M' := (I5, J, sm_rf t d)) rfl trivial ?_
          exact sm_W.forget (L' := [some (.ref 61), none, none, some (.int x3), some (.int a6)]) ⟨rfl, ⟨rfl, ⟨rfl, trivial⟩⟩⟩ (G_Mo_row_32 hD h hQ)
        · refine sm_W.run (sm_C_mono D) 2 (G := True) (fr' := (32, [some (.ref 61), some (.int x1), some (.int x2), some (.int x3), some (.int a6)], [.int (1 : Int32), .ref 61], 0, 0)) (M' := (I5, J, sm_rf t d)) rfl trivial ?_
          exact sm_W.forget (L' := [some (.ref 61), none, none, some (.int x3), some (.int a6)]) ⟨rfl, ⟨rfl, ⟨rfl, trivial⟩⟩⟩ (G_Mo_row_32 hD h hQ)
    · refine sm_W.run (sm_C_mono D) 1 (G := True) (fr' := (13, [some (.ref 61), some (.int x1), some (.int x2), some (.int x3), none], [.int (0 : Int32)], 0, 0)) (M' := (I5, J, sm_rf t d)) rfl trivial ?_
      cases h
      exact sm_W.ret (sm_C_mono D) rfl hQ
theorem T_Mo_row {X : Nat × (Nat → Int32)} {t d D : Nat} {Q : sm_Q} {I : sm_MI} {J : sm_MJ} {x1 : Int32} {x2 : Int32} {x3 : Int32} {rz : Int32} {Iz : sm_MI}
    (hD : 3 ≤ D) (h : F_Mo_row x1 x2 x3 I = some (rz, Iz)) (hQ : Q (.inl (some (.int rz))) (Iz, J, sm_rf t d)) : sm_C sm_sh X sm_P D 209 [.ref 61, .int x1, .int x2, .int x3] (I, J, sm_rf t d) Q := by
  cases D with
  | zero => omega
  | succ D => exact sm_C.of (me := me_209) (L := [some (.ref 61), some (.int x1), some (.int x2), some (.int x3), none]) rfl rfl rfl (sm_W.forget (L' := [some (.ref 61), some (.int x1), some (.int x2), some (.int x3), none]) ⟨rfl, ⟨rfl, ⟨rfl, ⟨rfl, trivial⟩⟩⟩⟩ (G_Mo_row (by omega) h hQ))
-- 210 Mo_able
noncomputable def F_Mo_able (x1 : Int32) (x2 : Int32) (I : sm_MI) : Option (Int32 × sm_MI) :=
  sd_lt (sd_up I 61 0 (0 : Int32)) fun I1 =>
  sd_q2 (F_Mo_isPiece x1 I1) fun r2 I3 =>
  if r2 = 0 then
    some ((0 : Int32), I3)
  else
    sd_q2 (F_Mo_isWhat x2 (3 : Int32) I3) fun r4 I5 =>
    if r4 = 0 then
      some ((0 : Int32), I5)
    else
      sd_q1 (F_Mo_areSo 86 (0 : Int32) I5) fun r6 =>
      sd_q1 (F_Mo_ableOf r6 (((4 : Int32) * x1) + x2) (0 : Int32) I5) fun r7 =>
      some (r7, I5)
theorem G_Mo_able {X : Nat × (Nat → Int32)} {t d D : Nat} {Q : sm_Q} {I : sm_MI} {J : sm_MJ} {x1 : Int32} {x2 : Int32} {rz : Int32} {Iz : sm_MI}
    (hD : 3 ≤ D) (h : F_Mo_able x1 x2 I = some (rz, Iz)) (hQ : Q (.inl (some (.int rz))) (Iz, J, sm_rf t d))  : sm_W sm_sh X (sm_C sm_sh X sm_P D) me_210 Q (0, [some (.ref 61), some (.int x1), some (.int x2)], [], 0, 0) (I, J, sm_rf t d) := by
  unfold F_Mo_able at h
  refine sm_W.runL (sm_C_mono D) 3 (G := True) (e := (sd_up I 61 0 (0 : Int32))) (fr' := fun _ => (3, [some (.ref 61), some (.int x1), some (.int x2)], [], 0, 0)) (M' := fun I1 => (I1, J, sm_rf t d)) rfl h trivial (fun I1 h => ?_)
  refine sm_W.run (sm_C_mono D) 2 (G := True) (fr' := (5, [some (.ref 61), some (.int x1), some (.int x2)], [.int x1, .ref 61], 0, 0)) (M' := (I1, J, sm_rf t d)) rfl trivial ?_
  obtain ⟨r2, I3, hc, h⟩ := sd_q2_go h
  refine sm_W.cal (sm_C_mono D) (y := 205) (as := [.ref 61, .int x1]) (fr' := (6, [some (.ref 61), some (.int x1), some (.int x2)], [], 0, 0)) rfl (T_Mo_isPiece (by omega) hc ?_)
  show sm_W sm_sh X (sm_C sm_sh X sm_P D) me_210 Q (6, [some (.ref 61), some (.int x1), some (.int x2)], [.int r2], 0, 0) (I3, J, sm_rf t d)
  refine sm_W.run (sm_C_mono D) 1 (G := True) (fr' := (if decide (r2 = 0) = true then 26 else 7, [some (.ref 61), some (.int x1), some (.int x2)], [], 0, 0)) (M' := (I3, J, sm_rf t d)) rfl trivial (sm_W.iteD h (fun hc h => ?_) (fun hc h => ?_))
  · refine sm_W.run (sm_C_mono D) 1 (G := True) (fr' := (27, [some (.ref 61), some (.int x1), some (.int x2)], [.int (0 : Int32)], 0, 0)) (M' := (I3, J, sm_rf t d)) rfl trivial ?_
    cases h
    exact sm_W.ret (sm_C_mono D) rfl hQ
  · refine sm_W.run (sm_C_mono D) 3 (G := True) (fr' := (10, [some (.ref 61), some (.int x1), some (.int x2)], [.int (3 : Int32), .int x2, .ref 61], 0, 0)) (M' := (I3, J, sm_rf t d)) rfl trivial ?_
    obtain ⟨r4, I5, hc, h⟩ := sd_q2_go h
    refine sm_W.cal (sm_C_mono D) (y := 206) (as := [.ref 61, .int x2, .int (3 : Int32)]) (fr' := (11, [some (.ref 61), some (.int x1), some (.int x2)], [], 0, 0)) rfl (T_Mo_isWhat (by omega) hc ?_)
    show sm_W sm_sh X (sm_C sm_sh X sm_P D) me_210 Q (11, [some (.ref 61), some (.int x1), some (.int x2)], [.int r4], 0, 0) (I5, J, sm_rf t d)
    refine sm_W.run (sm_C_mono D) 1 (G := True) (fr' := (if decide (r4 = 0) = true then 26 else 12, [some (.ref 61), some (.int x1), some (.int x2)], [], 0, 0)) (M' := (I5, J, sm_rf t d)) rfl trivial (sm_W.iteD h (fun hc h => ?_) (fun hc h => ?_))
    · refine sm_W.run (sm_C_mono D) 1 (G := True) (fr' := (27, [some (.ref 61), some (.int x1), some (.int x2)], [.int (0 : Int32)], 0, 0)) (M' := (I5, J, sm_rf t d)) rfl trivial ?_
      cases h
      exact sm_W.ret (sm_C_mono D) rfl hQ
    · refine sm_W.run (sm_C_mono D) 5 (G := True) (fr' := (17, [some (.ref 61), some (.int x1), some (.int x2)], [.int (0 : Int32), .ref 86, .ref 61, .ref 61], 0, 0)) (M' := (I5, J, sm_rf t d)) rfl trivial ?_
      obtain ⟨r6, hc, h⟩ := sd_q1_go h
      refine sm_W.cal (sm_C_mono D) (y := 196) (as := [.ref 61, .ref 86, .int (0 : Int32)]) (fr' := (18, [some (.ref 61), some (.int x1), some (.int x2)], [.ref 61], 0, 0)) rfl (T_Mo_areSo (by omega) (by decide) hc ?_)
      show sm_W sm_sh X (sm_C sm_sh X sm_P D) me_210 Q (18, [some (.ref 61), some (.int x1), some (.int x2)], [.int r6, .ref 61], 0, 0) (I5, J, sm_rf t d)
      refine sm_W.run (sm_C_mono D) 6 (G := True) (fr' := (24, [some (.ref 61), some (.int x1), some (.int x2)], [.int (0 : Int32), .int (((4 : Int32) * x1) + x2), .int r6, .ref 61], 0, 0)) (M' := (I5, J, sm_rf t d)) rfl trivial ?_
      obtain ⟨r7, hc, h⟩ := sd_q1_go h
      refine sm_W.cal (sm_C_mono D) (y := 199) (as := [.ref 61, .int r6, .int (((4 : Int32) * x1) + x2), .int (0 : Int32)]) (fr' := (25, [some (.ref 61), some (.int x1), some (.int x2)], [], 0, 0)) rfl (T_Mo_ableOf (by omega) hc ?_)
      show sm_W sm_sh X (sm_C sm_sh X sm_P D) me_210 Q (25, [some (.ref 61), some (.int x1), some (.int x2)], [.int r7], 0, 0) (I5, J, sm_rf t d)
      refine sm_W.run (sm_C_mono D) 1 (G := True) (fr' := (27, [some (.ref 61), some (.int x1), some (.int x2)], [.int r7], 0, 0)) (M' := (I5, J, sm_rf t d)) rfl trivial ?_
      cases h
      exact sm_W.ret (sm_C_mono D) rfl hQ
theorem T_Mo_able {X : Nat × (Nat → Int32)} {t d D : Nat} {Q : sm_Q} {I : sm_MI} {J : sm_MJ} {x1 : Int32} {x2 : Int32} {rz : Int32} {Iz : sm_MI}
    (hD : 4 ≤ D) (h : F_Mo_able x1 x2 I = some (rz, Iz)) (hQ : Q (.inl (some (.int rz))) (Iz, J, sm_rf t d)) : sm_C sm_sh X sm_P D 210 [.ref 61, .int x1, .int x2] (I, J, sm_rf t d) Q := by
  cases D with
  | zero => omega
  | succ D => exact sm_C.of (me := me_210) (L := [some (.ref 61), some (.int x1), some (.int x2)]) rfl rfl rfl (sm_W.forget (L' := [some (.ref 61), some (.int x1), some (.int x2)]) ⟨rfl, ⟨rfl, ⟨rfl, trivial⟩⟩⟩ (G_Mo_able (by omega) h hQ))
-- 211 Mo_works
noncomputable def F_Mo_works (x0 : Int32) (x1 : Int32) (x2 : Int32) : Option (Int32) :=
  if x0 = (4 : Int32) then
    if x1 = 0 then
      some ((0 : Int32))
    else
      if x2 = 0 then
        some ((0 : Int32))
      else
        some ((1 : Int32))
  else if x0 = (5 : Int32) then
    if ¬ x1 = 0 then
      some ((1 : Int32))
    else
      if x2 = 0 then
        some ((0 : Int32))
      else
        some ((1 : Int32))
  else if x0 = (6 : Int32) then
    if x2 ≤ x1 then
      some ((0 : Int32))
    else
      some ((1 : Int32))
  else if x0 = (7 : Int32) then
    if ¬ x1 = x2 then
      some ((0 : Int32))
    else
      some ((1 : Int32))
  else if x0 = (8 : Int32) then
    some ((x1 + x2))
  else if x0 = (9 : Int32) then
    some ((x1 - x2))
  else if x0 = (10 : Int32) then
    some ((x1 * x2))
  else 
    if ¬ x2 = 0 then
      sd_gu (¬ x2 = 0) <|
      some ((x1 / x2))
    else
      some ((0 : Int32))
theorem G_Mo_works {X : Nat × (Nat → Int32)} {t d D : Nat} {Q : sm_Q} {I : sm_MI} {J : sm_MJ} {x0 : Int32} {x1 : Int32} {x2 : Int32} {rz : Int32}
    (hD : 0 ≤ D) (h : F_Mo_works x0 x1 x2 = some (rz)) (hQ : Q (.inl (some (.int rz))) (I, J, sm_rf t d))  : sm_W sm_sh X (sm_C sm_sh X sm_P D) me_211 Q (0, [some (.int x0), some (.int x1), some (.int x2)], [], 0, 0) (I, J, sm_rf t d) := by
  unfold F_Mo_works at h
  refine sm_W.run (sm_C_mono D) 2 (G := True) (fr' := (sm_sw (Int32.toInt x0) (4) [2, 10, 18, 25, 32, 36, 40] 44, [some (.int x0), some (.int x1), some (.int x2)], [], 0, 0)) (M' := (I, J, sm_rf t d)) rfl trivial ?_
  rw [sd_sw_eq]
  refine sm_W.swS (c := (4 : Int32)) (by decide) h (fun h => ?_) (fun h => ?_)
  · refine sm_W.run (sm_C_mono D) 2 (G := True) (fr' := (if decide (x1 = 0) = true then 8 else 4, [some (.int x0), some (.int x1), some (.int x2)], [], 0, 0)) (M' := (I, J, sm_rf t d)) rfl trivial (sm_W.iteD h (fun hc h => ?_) (fun hc h => ?_))
    · refine sm_W.run (sm_C_mono D) 1 (G := True) (fr' := (9, [some (.int x0), some (.int x1), some (.int x2)], [.int (0 : Int32)], 0, 0)) (M' := (I, J, sm_rf t d)) rfl trivial ?_
      cases h
      exact sm_W.ret (sm_C_mono D) rfl hQ
    · refine sm_W.run (sm_C_mono D) 2 (G := True) (fr' := (if decide (x2 = 0) = true then 8 else 6, [some (.int x0), some (.int x1), some (.int x2)], [], 0, 0)) (M' := (I, J, sm_rf t d)) rfl trivial (sm_W.iteD h (fun hc h => ?_) (fun hc h => ?_))
      · refine sm_W.run (sm_C_mono D) 1 (G := True) (fr' := (9, [some (.int x0), some (.int x1), some (.int x2)], [.int (0 : Int32)], 0, 0)) (M' := (I, J, sm_rf t d)) rfl trivial ?_
        cases h
        exact sm_W.ret (sm_C_mono D) rfl hQ
      · refine sm_W.run (sm_C_mono D) 2 (G := True) (fr' := (9, [some (.int x0), some (.int x1), some (.int x2)], [.int (1 : Int32)], 0, 0)) (M' := (I, J, sm_rf t d)) rfl trivial ?_
        cases h
        exact sm_W.ret (sm_C_mono D) rfl hQ
  refine sm_W.swS (c := (5 : Int32)) (by decide) h (fun h => ?_) (fun h => ?_)
  · refine sm_W.run (sm_C_mono D) 2 (G := True) (fr' := (if decide (¬ x1 = 0) = true then 14 else 12, [some (.int x0), some (.int x1), some (.int x2)], [], 0, 0)) (M' := (I, J, sm_rf t d)) rfl trivial (sm_W.iteD h (fun hc h => ?_) (fun hc h => ?_))
    · refine sm_W.run (sm_C_mono D) 2 (G := True) (fr' := (17, [some (.int x0), some (.int x1), some (.int x2)], [.int (1 : Int32)], 0, 0)) (M' := (I, J, sm_rf t d)) rfl trivial ?_
      cases h
      exact sm_W.ret (sm_C_mono D) rfl hQ
    · refine sm_W.run (sm_C_mono D) 2 (G := True) (fr' := (if decide (x2 = 0) = true then 16 else 14, [some (.int x0), some (.int x1), some (.int x2)], [], 0, 0)) (M' := (I, J, sm_rf t d)) rfl trivial (sm_W.iteD h (fun hc h => ?_) (fun hc h => ?_))
      · refine sm_W.run (sm_C_mono D) 1 (G := True) (fr' := (17, [some (.int x0), some (.int x1), some (.int x2)], [.int (0 : Int32)], 0, 0)) (M' := (I, J, sm_rf t d)) rfl trivial ?_
        cases h
        exact sm_W.ret (sm_C_mono D) rfl hQ
      · refine sm_W.run (sm_C_mono D) 2 (G := True) (fr' := (17, [some (.int x0), some (.int x1), some (.int x2)], [.int (1 : Int32)], 0, 0)) (M' := (I, J, sm_rf t d)) rfl trivial ?_
        cases h
        exact sm_W.ret (sm_C_mono D) rfl hQ
  refine sm_W.swS (c := (6 : Int32)) (by decide) h (fun h => ?_) (fun h => ?_)
  · refine sm_W.run (sm_C_mono D) 3 (G := True) (fr' := (if decide (x2 ≤ x1) = true then 23 else 21, [some (.int x0), some (.int x1), some (.int x2)], [], 0, 0)) (M' := (I, J, sm_rf t d)) rfl trivial (sm_W.iteD h (fun hc h => ?_) (fun hc h => ?_))
    · refine sm_W.run (sm_C_mono D) 1 (G := True) (fr' := (24, [some (.int x0), some (.int x1), some (.int x2)], [.int (0 : Int32)], 0, 0)) (M' := (I, J, sm_rf t d)) rfl trivial ?_
      cases h
      exact sm_W.ret (sm_C_mono D) rfl hQ
    · refine sm_W.run (sm_C_mono D) 2 (G := True) (fr' := (24, [some (.int x0), some (.int x1), some (.int x2)], [.int (1 : Int32)], 0, 0)) (M' := (I, J, sm_rf t d)) rfl trivial ?_
      cases h
      exact sm_W.ret (sm_C_mono D) rfl hQ
  refine sm_W.swS (c := (7 : Int32)) (by decide) h (fun h => ?_) (fun h => ?_)
  · refine sm_W.run (sm_C_mono D) 3 (G := True) (fr' := (if decide (¬ x1 = x2) = true then 30 else 28, [some (.int x0), some (.int x1), some (.int x2)], [], 0, 0)) (M' := (I, J, sm_rf t d)) rfl trivial (sm_W.iteD h (fun hc h => ?_) (fun hc h => ?_))
    · refine sm_W.run (sm_C_mono D) 1 (G := True) (fr' := (31, [some (.int x0), some (.int x1), some (.int x2)], [.int (0 : Int32)], 0, 0)) (M' := (I, J, sm_rf t d)) rfl trivial ?_
      cases h
      exact sm_W.ret (sm_C_mono D) rfl hQ
    · refine sm_W.run (sm_C_mono D) 2 (G := True) (fr' := (31, [some (.int x0), some (.int x1), some (.int x2)], [.int (1 : Int32)], 0, 0)) (M' := (I, J, sm_rf t d)) rfl trivial ?_
      cases h
      exact sm_W.ret (sm_C_mono D) rfl hQ
  refine sm_W.swS (c := (8 : Int32)) (by decide) h (fun h => ?_) (fun h => ?_)
  · refine sm_W.run (sm_C_mono D) 3 (G := True) (fr' := (35, [some (.int x0), some (.int x1), some (.int x2)], [.int (x1 + x2)], 0, 0)) (M' := (I, J, sm_rf t d)) rfl trivial ?_
    cases h
    exact sm_W.ret (sm_C_mono D) rfl hQ
  refine sm_W.swS (c := (9 : Int32)) (by decide) h (fun h => ?_) (fun h => ?_)
  · refine sm_W.run (sm_C_mono D) 3 (G := True) (fr' := (39, [some (.int x0), some (.int x1), some (.int x2)], [.int (x1 - x2)], 0, 0)) (M' := (I, J, sm_rf t d)) rfl trivial ?_
    cases h
    exact sm_W.ret (sm_C_mono D) rfl hQ
  refine sm_W.swS (c := (10 : Int32)) (by decide) h (fun h => ?_) (fun h => ?_)
  · refine sm_W.run (sm_C_mono D) 3 (G := True) (fr' := (43, [some (.int x0), some (.int x1), some (.int x2)], [.int (x1 * x2)], 0, 0)) (M' := (I, J, sm_rf t d)) rfl trivial ?_
    cases h
    exact sm_W.ret (sm_C_mono D) rfl hQ
  refine sm_W.run (sm_C_mono D) 2 (G := True) (fr' := (if decide (¬ x2 = 0) = true then 48 else 46, [some (.int x0), some (.int x1), some (.int x2)], [], 0, 0)) (M' := (I, J, sm_rf t d)) rfl trivial (sm_W.iteD h (fun hc h => ?_) (fun hc h => ?_))
  · obtain ⟨g1, h⟩ := sd_gu_go h
    refine sm_W.run (sm_C_mono D) 3 (G := ¬ x2 = 0 ∧ True) (fr' := (51, [some (.int x0), some (.int x1), some (.int x2)], [.int (x1 / x2)], 0, 0)) (M' := (I, J, sm_rf t d)) rfl ⟨g1, trivial⟩ ?_
    cases h
    exact sm_W.ret (sm_C_mono D) rfl hQ
  · refine sm_W.run (sm_C_mono D) 2 (G := True) (fr' := (51, [some (.int x0), some (.int x1), some (.int x2)], [.int (0 : Int32)], 0, 0)) (M' := (I, J, sm_rf t d)) rfl trivial ?_
    cases h
    exact sm_W.ret (sm_C_mono D) rfl hQ
theorem T_Mo_works {X : Nat × (Nat → Int32)} {t d D : Nat} {Q : sm_Q} {I : sm_MI} {J : sm_MJ} {x0 : Int32} {x1 : Int32} {x2 : Int32} {rz : Int32}
    (hD : 1 ≤ D) (h : F_Mo_works x0 x1 x2 = some (rz)) (hQ : Q (.inl (some (.int rz))) (I, J, sm_rf t d)) : sm_C sm_sh X sm_P D 211 [.int x0, .int x1, .int x2] (I, J, sm_rf t d) Q := by
  cases D with
  | zero => omega
  | succ D => exact sm_C.of (me := me_211) (L := [some (.int x0), some (.int x1), some (.int x2)]) rfl rfl rfl (sm_W.forget (L' := [some (.int x0), some (.int x1), some (.int x2)]) ⟨rfl, ⟨rfl, ⟨rfl, trivial⟩⟩⟩ (G_Mo_works (by omega) h hQ))
-- 212 Mo_reckons
noncomputable def F_Mo_reckons_21 (k4 : Int32 → Int32 → sm_MI → Option (Int32 × sm_MI)) (x2 : Int32) (x3 : Int32) (x4 : Int32) (I : sm_MI) : Option (Int32 × sm_MI) :=
  if ¬ x4 = (1 : Int32) then
    sd_gu (sm_in x3 2800 = true) <|
    sd_gu (sm_in (I 71 (Int32.toNatClampNeg x3)) 10 = true) <|
    sd_gu (sm_in x2 950 = true) <|
    sd_lt (sd_up I 90 (Int32.toNatClampNeg x2) (I 89 (Int32.toNatClampNeg (I 71 (Int32.toNatClampNeg x3))))) fun I4 =>
    k4 (x2 + (1 : Int32)) (x3 + (1 : Int32)) I4
  else
    sd_gu (sm_in x3 2800 = true) <|
    sd_gu (sm_in x2 950 = true) <|
    sd_lt (sd_up I 90 (Int32.toNatClampNeg x2) (I 71 (Int32.toNatClampNeg x3))) fun I7 =>
    k4 (x2 + (1 : Int32)) (x3 + (1 : Int32)) I7
noncomputable def F_Mo_reckons_4B (k4 : Int32 → Int32 → sm_MI → Option (Int32 × sm_MI)) (x2 : Int32) (x3 : Int32) (I : sm_MI) : Option (Int32 × sm_MI) :=
  sd_gu (sm_in x3 2800 = true) <|
  if (I 71 (Int32.toNatClampNeg x3)) = 0 then
    sd_gu (sm_in (0 : Int32) 950 = true) <|
    some ((I 90 0), I)
  else
    sd_gu (sm_in x3 2800 = true) <|
    sd_lt (I 71 (Int32.toNatClampNeg x3)) fun a4 =>
    if a4 = (1 : Int32) then
      F_Mo_reckons_21 k4 x2 (x3 + (1 : Int32)) a4 I
    else
      if ¬ a4 = (2 : Int32) then
        if ¬ a4 = (3 : Int32) then
          sd_gu (sm_in ((x2 + (-1 : Int32)) - (1 : Int32)) 950 = true) <|
          sd_gu (sm_in (x2 + (-1 : Int32)) 950 = true) <|
          sd_q1 (F_Mo_works a4 (I 90 (Int32.toNatClampNeg ((x2 + (-1 : Int32)) - (1 : Int32)))) (I 90 (Int32.toNatClampNeg (x2 + (-1 : Int32))))) fun r7 =>
          sd_gu (sm_in ((x2 + (-1 : Int32)) - (1 : Int32)) 950 = true) <|
          sd_lt (sd_up I 90 (Int32.toNatClampNeg ((x2 + (-1 : Int32)) - (1 : Int32))) r7) fun I9 =>
          k4 (x2 + (-1 : Int32)) (x3 + (1 : Int32)) I9
        else
          sd_gu (sm_in (x2 - (1 : Int32)) 950 = true) <|
          if ¬ (I 90 (Int32.toNatClampNeg (x2 - (1 : Int32)))) = 0 then
            sd_gu (sm_in (x2 - (1 : Int32)) 950 = true) <|
            sd_lt (sd_up I 90 (Int32.toNatClampNeg (x2 - (1 : Int32))) (0 : Int32)) fun I12 =>
            k4 x2 (x3 + (1 : Int32)) I12
          else
            sd_gu (sm_in (x2 - (1 : Int32)) 950 = true) <|
            sd_lt (sd_up I 90 (Int32.toNatClampNeg (x2 - (1 : Int32))) (1 : Int32)) fun I14 =>
            k4 x2 (x3 + (1 : Int32)) I14
      else
        F_Mo_reckons_21 k4 x2 (x3 + (1 : Int32)) a4 I
noncomputable def F_Mo_reckons_4  (n : Nat) : Int32 → Int32 → sm_MI → Option (Int32 × sm_MI) :=
  sd_fix (fun k x2 x3 I => F_Mo_reckons_4B k x2 x3 I) (fun _ _ _ => none) n
noncomputable def F_Mo_reckons (x1 : Int32) (I : sm_MI) : Option (Int32 × sm_MI) :=
  F_Mo_reckons_4 sd_fu (0 : Int32) x1 I
theorem G_Mo_reckons_21 {X : Nat × (Nat → Int32)} {t d D : Nat} {Q : sm_Q} {I : sm_MI} {J : sm_MJ} {k4 : Int32 → Int32 → sm_MI → Option (Int32 × sm_MI)} {x2 : Int32} {x3 : Int32} {x4 : Int32} {rz : Int32} {Iz : sm_MI}
    (hD : 1 ≤ D) (h : F_Mo_reckons_21 k4 x2 x3 x4 I = some (rz, Iz)) (hQ : Q (.inl (some (.int rz))) (Iz, J, sm_rf t d)) (hk4 : ∀ (x2 : Int32) (x3 : Int32) (I : sm_MI), k4 x2 x3 I = some (rz, Iz) → sm_W sm_sh X (sm_C sm_sh X sm_P D) me_212 Q (4, [some (.ref 61), none, some (.int x2), some (.int x3), none], [], 0, 0) (I, J, sm_rf t d)) : sm_W sm_sh X (sm_C sm_sh X sm_P D) me_212 Q (21, [some (.ref 61), none, some (.int x2), some (.int x3), some (.int x4)], [], 0, 0) (I, J, sm_rf t d) := by
  unfold F_Mo_reckons_21 at h
  refine sm_W.run (sm_C_mono D) 6 (G := True) (fr' := (if decide (¬ x4 = (1 : Int32)) = true then 32 else 27, [some (.ref 61), none, some (.int x2), some (.int x3), some (.int x4)], [.int x2, .ref 90], 0, 0)) (M' := (I, J, sm_rf t d)) rfl trivial (sm_W.iteD h (fun hc h => ?_) (fun hc h => ?_))
  · obtain ⟨g1, h⟩ := sd_gu_go h
    obtain ⟨g2, h⟩ := sd_gu_go h
    obtain ⟨g3, h⟩ := sd_gu_go h
    refine sm_W.runL (sm_C_mono D) 8 (G := sm_in x3 2800 = true ∧ sm_in (I 71 (Int32.toNatClampNeg x3)) 10 = true ∧ sm_in x2 950 = true ∧ True) (e := (sd_up I 90 (Int32.toNatClampNeg x2) (I 89 (Int32.toNatClampNeg (I 71 (Int32.toNatClampNeg x3)))))) (fr' := fun _ => (40, [some (.ref 61), none, some (.int x2), some (.int x3), some (.int x4)], [], 0, 0)) (M' := fun I4 => (I4, J, sm_rf t d)) rfl h ⟨g1, g2, g3, trivial⟩ (fun I4 h => ?_)
    refine sm_W.run (sm_C_mono D) 4 (G := True) (fr' := (4, [some (.ref 61), none, some (.int (x2 + (1 : Int32))), some (.int (x3 + (1 : Int32))), some (.int x4)], [], 0, 0)) (M' := (I4, J, sm_rf t d)) rfl trivial ?_
    exact sm_W.forget (L' := [some (.ref 61), none, some (.int (x2 + (1 : Int32))), some (.int (x3 + (1 : Int32))), none]) ⟨rfl, ⟨rfl, ⟨rfl, trivial⟩⟩⟩ (hk4 _ _ _ h)
  · obtain ⟨g5, h⟩ := sd_gu_go h
    obtain ⟨g6, h⟩ := sd_gu_go h
    refine sm_W.runL (sm_C_mono D) 6 (G := sm_in x3 2800 = true ∧ sm_in x2 950 = true ∧ True) (e := (sd_up I 90 (Int32.toNatClampNeg x2) (I 71 (Int32.toNatClampNeg x3)))) (fr' := fun _ => (40, [some (.ref 61), none, some (.int x2), some (.int x3), some (.int x4)], [], 0, 0)) (M' := fun I7 => (I7, J, sm_rf t d)) rfl h ⟨g5, g6, trivial⟩ (fun I7 h => ?_)
    refine sm_W.run (sm_C_mono D) 4 (G := True) (fr' := (4, [some (.ref 61), none, some (.int (x2 + (1 : Int32))), some (.int (x3 + (1 : Int32))), some (.int x4)], [], 0, 0)) (M' := (I7, J, sm_rf t d)) rfl trivial ?_
    exact sm_W.forget (L' := [some (.ref 61), none, some (.int (x2 + (1 : Int32))), some (.int (x3 + (1 : Int32))), none]) ⟨rfl, ⟨rfl, ⟨rfl, trivial⟩⟩⟩ (hk4 _ _ _ h)
theorem G_Mo_reckons_4B {X : Nat × (Nat → Int32)} {t d D : Nat} {Q : sm_Q} {I : sm_MI} {J : sm_MJ} {k4 : Int32 → Int32 → sm_MI → Option (Int32 × sm_MI)} {x2 : Int32} {x3 : Int32} {rz : Int32} {Iz : sm_MI}
    (hD : 1 ≤ D) (h : F_Mo_reckons_4B k4 x2 x3 I = some (rz, Iz)) (hQ : Q (.inl (some (.int rz))) (Iz, J, sm_rf t d)) (hk4 : ∀ (x2 : Int32) (x3 : Int32) (I : sm_MI), k4 x2 x3 I = some (rz, Iz) → sm_W sm_sh X (sm_C sm_sh X sm_P D) me_212 Q (4, [some (.ref 61), none, some (.int x2), some (.int x3), none], [], 0, 0) (I, J, sm_rf t d)) : sm_W sm_sh X (sm_C sm_sh X sm_P D) me_212 Q (4, [some (.ref 61), none, some (.int x2), some (.int x3), none], [], 0, 0) (I, J, sm_rf t d) := by
  unfold F_Mo_reckons_4B at h
  obtain ⟨g1, h⟩ := sd_gu_go h
  refine sm_W.run (sm_C_mono D) 5 (G := sm_in x3 2800 = true ∧ True) (fr' := (if decide ((I 71 (Int32.toNatClampNeg x3)) = 0) = true then 83 else 9, [some (.ref 61), none, some (.int x2), some (.int x3), none], [], 0, 0)) (M' := (I, J, sm_rf t d)) rfl ⟨g1, trivial⟩ (sm_W.iteD h (fun hc h => ?_) (fun hc h => ?_))
  · obtain ⟨g2, h⟩ := sd_gu_go h
    refine sm_W.run (sm_C_mono D) 4 (G := sm_in (0 : Int32) 950 = true ∧ True) (fr' := (87, [some (.ref 61), none, some (.int x2), some (.int x3), none], [.int (I 90 0)], 0, 0)) (M' := (I, J, sm_rf t d)) rfl ⟨g2, trivial⟩ ?_
    cases h
    exact sm_W.ret (sm_C_mono D) rfl hQ
  · obtain ⟨g3, h⟩ := sd_gu_go h
    refine sm_W.runL (sm_C_mono D) 5 (G := sm_in x3 2800 = true ∧ True) (e := (I 71 (Int32.toNatClampNeg x3))) (fr' := fun a4 => (14, [some (.ref 61), none, some (.int x2), some (.int x3), some (.int a4)], [], 0, 0)) (M' := fun _ => (I, J, sm_rf t d)) rfl h ⟨g3, trivial⟩ (fun a4 h => ?_)
    refine sm_W.run (sm_C_mono D) 4 (G := True) (fr' := (if decide (a4 = (1 : Int32)) = true then 21 else 18, [some (.ref 61), none, some (.int x2), some (.int (x3 + (1 : Int32))), some (.int a4)], [], 0, 0)) (M' := (I, J, sm_rf t d)) rfl trivial (sm_W.iteD h (fun hc h => ?_) (fun hc h => ?_))
    · exact (G_Mo_reckons_21 hD h hQ hk4)
    · refine sm_W.run (sm_C_mono D) 3 (G := True) (fr' := (if decide (¬ a4 = (2 : Int32)) = true then 43 else 21, [some (.ref 61), none, some (.int x2), some (.int (x3 + (1 : Int32))), some (.int a4)], [], 0, 0)) (M' := (I, J, sm_rf t d)) rfl trivial (sm_W.iteD h (fun hc h => ?_) (fun hc h => ?_))
      · refine sm_W.run (sm_C_mono D) 3 (G := True) (fr' := (if decide (¬ a4 = (3 : Int32)) = true then 63 else 46, [some (.ref 61), none, some (.int x2), some (.int (x3 + (1 : Int32))), some (.int a4)], [], 0, 0)) (M' := (I, J, sm_rf t d)) rfl trivial (sm_W.iteD h (fun hc h => ?_) (fun hc h => ?_))
        · obtain ⟨g5, h⟩ := sd_gu_go h
          obtain ⟨g6, h⟩ := sd_gu_go h
          refine sm_W.run (sm_C_mono D) 17 (G := sm_in ((x2 + (-1 : Int32)) - (1 : Int32)) 950 = true ∧ sm_in (x2 + (-1 : Int32)) 950 = true ∧ True) (fr' := (80, [some (.ref 61), none, some (.int (x2 + (-1 : Int32))), some (.int (x3 + (1 : Int32))), some (.int a4)], [.int (I 90 (Int32.toNatClampNeg (x2 + (-1 : Int32)))), .int (I 90 (Int32.toNatClampNeg ((x2 + (-1 : Int32)) - (1 : Int32)))), .int a4, .int ((x2 + (-1 : Int32)) - (1 : Int32)), .ref 90], 0, 0)) (M' := (I, J, sm_rf t d)) rfl ⟨g5, g6, trivial⟩ ?_
          obtain ⟨r7, hc, h⟩ := sd_q1_go h
          refine sm_W.cal (sm_C_mono D) (y := 211) (as := [.int a4, .int (I 90 (Int32.toNatClampNeg ((x2 + (-1 : Int32)) - (1 : Int32)))), .int (I 90 (Int32.toNatClampNeg (x2 + (-1 : Int32))))]) (fr' := (81, [some (.ref 61), none, some (.int (x2 + (-1 : Int32))), some (.int (x3 + (1 : Int32))), some (.int a4)], [.int ((x2 + (-1 : Int32)) - (1 : Int32)), .ref 90], 0, 0)) rfl (T_Mo_works (by omega) hc ?_)
          show sm_W sm_sh X (sm_C sm_sh X sm_P D) me_212 Q (81, [some (.ref 61), none, some (.int (x2 + (-1 : Int32))), some (.int (x3 + (1 : Int32))), some (.int a4)], [.int r7, .int ((x2 + (-1 : Int32)) - (1 : Int32)), .ref 90], 0, 0) (I, J, sm_rf t d)
          obtain ⟨g8, h⟩ := sd_gu_go h
          refine sm_W.runL (sm_C_mono D) 1 (G := sm_in ((x2 + (-1 : Int32)) - (1 : Int32)) 950 = true ∧ True) (e := (sd_up I 90 (Int32.toNatClampNeg ((x2 + (-1 : Int32)) - (1 : Int32))) r7)) (fr' := fun _ => (82, [some (.ref 61), none, some (.int (x2 + (-1 : Int32))), some (.int (x3 + (1 : Int32))), some (.int a4)], [], 0, 0)) (M' := fun I9 => (I9, J, sm_rf t d)) rfl h ⟨g8, trivial⟩ (fun I9 h => ?_)
          refine sm_W.run (sm_C_mono D) 1 (G := True) (fr' := (4, [some (.ref 61), none, some (.int (x2 + (-1 : Int32))), some (.int (x3 + (1 : Int32))), some (.int a4)], [], 0, 0)) (M' := (I9, J, sm_rf t d)) rfl trivial ?_
          exact sm_W.forget (L' := [some (.ref 61), none, some (.int (x2 + (-1 : Int32))), some (.int (x3 + (1 : Int32))), none]) ⟨rfl, ⟨rfl, ⟨rfl, trivial⟩⟩⟩ (hk4 _ _ _ h)
        · obtain ⟨g10, h⟩ := sd_gu_go h
          refine sm_W.run (sm_C_mono D) 12 (G := sm_in (x2 - (1 : Int32)) 950 = true ∧ True) (fr' := (if decide (¬ (I 90 (Int32.toNatClampNeg (x2 - (1 : Int32)))) = 0) = true then 60 else 58, [some (.ref 61), none, some (.int x2), some (.int (x3 + (1 : Int32))), some (.int a4)], [.int (x2 - (1 : Int32)), .ref 90], 0, 0)) (M' := (I, J, sm_rf t d)) rfl ⟨g10, trivial⟩ (sm_W.iteD h (fun hc h => ?_) (fun hc h => ?_))
          · obtain ⟨g11, h⟩ := sd_gu_go h
            refine sm_W.runL (sm_C_mono D) 2 (G := sm_in (x2 - (1 : Int32)) 950 = true ∧ True) (e := (sd_up I 90 (Int32.toNatClampNeg (x2 - (1 : Int32))) (0 : Int32))) (fr' := fun _ => (62, [some (.ref 61), none, some (.int x2), some (.int (x3 + (1 : Int32))), some (.int a4)], [], 0, 0)) (M' := fun I12 => (I12, J, sm_rf t d)) rfl h ⟨g11, trivial⟩ (fun I12 h => ?_)
            refine sm_W.run (sm_C_mono D) 2 (G := True) (fr' := (4, [some (.ref 61), none, some (.int x2), some (.int (x3 + (1 : Int32))), some (.int a4)], [], 0, 0)) (M' := (I12, J, sm_rf t d)) rfl trivial ?_
            exact sm_W.forget (L' := [some (.ref 61), none, some (.int x2), some (.int (x3 + (1 : Int32))), none]) ⟨rfl, ⟨rfl, ⟨rfl, trivial⟩⟩⟩ (hk4 _ _ _ h)
          · obtain ⟨g13, h⟩ := sd_gu_go h
            refine sm_W.runL (sm_C_mono D) 3 (G := sm_in (x2 - (1 : Int32)) 950 = true ∧ True) (e := (sd_up I 90 (Int32.toNatClampNeg (x2 - (1 : Int32))) (1 : Int32))) (fr' := fun _ => (62, [some (.ref 61), none, some (.int x2), some (.int (x3 + (1 : Int32))), some (.int a4)], [], 0, 0)) (M' := fun I14 => (I14, J, sm_rf t d)) rfl h ⟨g13, trivial⟩ (fun I14 h => ?_)
            refine sm_W.run (sm_C_mono D) 2 (G := True) (fr' := (4, [some (.ref 61), none, some (.int x2), some (.int (x3 + (1 : Int32))), some (.int a4)], [], 0, 0)) (M' := (I14, J, sm_rf t d)) rfl trivial ?_
            exact sm_W.forget (L' := [some (.ref 61), none, some (.int x2), some (.int (x3 + (1 : Int32))), none]) ⟨rfl, ⟨rfl, ⟨rfl, trivial⟩⟩⟩ (hk4 _ _ _ h)
      · exact (G_Mo_reckons_21 hD h hQ hk4)
theorem G_Mo_reckons_4 {X : Nat × (Nat → Int32)} {t d D : Nat} {Q : sm_Q} {J : sm_MJ} {rz : Int32} {Iz : sm_MI}
    (hD : 1 ≤ D) (hQ : Q (.inl (some (.int rz))) (Iz, J, sm_rf t d))  : ∀ (n : Nat) (x2 : Int32) (x3 : Int32) (I : sm_MI), F_Mo_reckons_4 n x2 x3 I = some (rz, Iz) → sm_W sm_sh X (sm_C sm_sh X sm_P D) me_212 Q (4, [some (.ref 61), none, some (.int x2), some (.int x3), none], [], 0, 0) (I, J, sm_rf t d) := by
  intro n
  induction n with
  | zero => intro x2 x3 I h; cases (show (none : Option (Int32 × sm_MI)) = some (rz, Iz) from h)
  | succ n ih => intro x2 x3 I h; exact G_Mo_reckons_4B hD (show F_Mo_reckons_4B (F_Mo_reckons_4 n) x2 x3 I = some (rz, Iz) from h) hQ  ih
theorem G_Mo_reckons {X : Nat × (Nat → Int32)} {t d D : Nat} {Q : sm_Q} {I : sm_MI} {J : sm_MJ} {x1 : Int32} {rz : Int32} {Iz : sm_MI}
    (hD : 1 ≤ D) (h : F_Mo_reckons x1 I = some (rz, Iz)) (hQ : Q (.inl (some (.int rz))) (Iz, J, sm_rf t d))  : sm_W sm_sh X (sm_C sm_sh X sm_P D) me_212 Q (0, [some (.ref 61), some (.int x1), none, none, none], [], 0, 0) (I, J, sm_rf t d) := by
  unfold F_Mo_reckons at h
  refine sm_W.run (sm_C_mono D) 4 (G := True) (fr' := (4, [some (.ref 61), some (.int x1), some (.int (0 : Int32)), some (.int x1), none], [], 0, 0)) (M' := (I, J, sm_rf t d)) rfl trivial ?_
  exact sm_W.forget (L' := [some (.ref 61), none, some (.int (0 : Int32)), some (.int x1), none]) ⟨rfl, ⟨rfl, ⟨rfl, trivial⟩⟩⟩ (G_Mo_reckons_4 hD hQ sd_fu _ _ _ h)
theorem T_Mo_reckons {X : Nat × (Nat → Int32)} {t d D : Nat} {Q : sm_Q} {I : sm_MI} {J : sm_MJ} {x1 : Int32} {rz : Int32} {Iz : sm_MI}
    (hD : 2 ≤ D) (h : F_Mo_reckons x1 I = some (rz, Iz)) (hQ : Q (.inl (some (.int rz))) (Iz, J, sm_rf t d)) : sm_C sm_sh X sm_P D 212 [.ref 61, .int x1] (I, J, sm_rf t d) Q := by
  cases D with
  | zero => omega
  | succ D => exact sm_C.of (me := me_212) (L := [some (.ref 61), some (.int x1), none, none, none]) rfl rfl rfl (sm_W.forget (L' := [some (.ref 61), some (.int x1), none, none, none]) ⟨rfl, ⟨rfl, trivial⟩⟩ (G_Mo_reckons (by omega) h hQ))
-- 213 Mo_isHolding
noncomputable def F_Mo_isHolding (p1 : Nat) (x2 : Int32) (I : sm_MI) : Option (Int32 × sm_MI) :=
  sd_gu (sm_in x2 4 = true) <|
  if ¬ (I 70 (Int32.toNatClampNeg x2)) = (-1 : Int32) then
    sd_q1 (F_Mo_areSo p1 (0 : Int32) I) fun r2 =>
    sd_gu (sm_in (14 : Int32) 16 = true) <|
    sd_gu (sm_in (0 : Int32) 10 = true) <|
    sd_lt (sd_up I 89 0 (I p1 14)) fun I5 =>
    sd_gu (sm_in (15 : Int32) 16 = true) <|
    sd_gu (sm_in (1 : Int32) 10 = true) <|
    sd_lt (sd_up I5 89 1 (I5 p1 15)) fun I8 =>
    sd_q1 (F_Mo_ofSide x2 I8) fun r9 =>
    sd_q1 (F_Mo_bits (r2 &&& r9)) fun r10 =>
    sd_gu (sm_in (2 : Int32) 10 = true) <|
    sd_lt (sd_up I8 89 2 r10) fun I12 =>
    sd_q1 (F_Mo_ofSide ((1 : Int32) - x2) I12) fun r13 =>
    sd_q1 (F_Mo_bits (r2 &&& r13)) fun r14 =>
    sd_gu (sm_in (3 : Int32) 10 = true) <|
    sd_lt (sd_up I12 89 3 r14) fun I16 =>
    sd_q1 (F_Mo_areSo p1 (2 : Int32) I16) fun r17 =>
    sd_q1 (F_Mo_ofSide x2 I16) fun r18 =>
    sd_q1 (F_Mo_bits (r17 &&& r18)) fun r19 =>
    sd_gu (sm_in (4 : Int32) 10 = true) <|
    sd_lt (sd_up I16 89 4 r19) fun I21 =>
    sd_q1 (F_Mo_sungBy r2 I21) fun r22 =>
    sd_q1 (F_Mo_bits r22) fun r23 =>
    sd_gu (sm_in (5 : Int32) 10 = true) <|
    sd_lt (sd_up I21 89 5 r23) fun I25 =>
    sd_gu (sm_in x2 4 = true) <|
    sd_q2 (F_Mo_reckons (I25 70 (Int32.toNatClampNeg x2)) I25) fun r27 I28 =>
    if r27 ≤ 0 then
      some ((0 : Int32), I28)
    else
      some ((1 : Int32), I28)
  else
    some ((0 : Int32), I)
theorem G_Mo_isHolding {X : Nat × (Nat → Int32)} {t d D : Nat} {Q : sm_Q} {I : sm_MI} {J : sm_MJ} {p1 : Nat} {x2 : Int32} {rz : Int32} {Iz : sm_MI}
    (hD : 5 ≤ D) (hp : (p1 = 86) ∨ (p1 = 87)) (h : F_Mo_isHolding p1 x2 I = some (rz, Iz)) (hQ : Q (.inl (some (.int rz))) (Iz, J, sm_rf t d))  : sm_W sm_sh X (sm_C sm_sh X sm_P D) me_213 Q (0, [some (.ref 61), some (.ref p1), some (.int x2), none], [], 0, 0) (I, J, sm_rf t d) := by
  unfold F_Mo_isHolding at h
  rcases hp with rfl | rfl
  · skip
    obtain ⟨g1, h⟩ := sd_gu_go h
    refine sm_W.run (sm_C_mono D) 6 (G := sm_in x2 4 = true ∧ True) (fr' := (if decide (¬ (I 70 (Int32.toNatClampNeg x2)) = (-1 : Int32)) = true then 8 else 6, [some (.ref 61), some (.ref 86), some (.int x2), none], [], 0, 0)) (M' := (I, J, sm_rf t d)) rfl ⟨g1, trivial⟩ (sm_W.iteD h (fun hc h => ?_) (fun hc h => ?_))
    · refine sm_W.run (sm_C_mono D) 3 (G := True) (fr' := (11, [some (.ref 61), some (.ref 86), some (.int x2), none], [.int (0 : Int32), .ref 86, .ref 61], 0, 0)) (M' := (I, J, sm_rf t d)) rfl trivial ?_
      obtain ⟨r2, hc, h⟩ := sd_q1_go h
      refine sm_W.cal (sm_C_mono D) (y := 196) (as := [.ref 61, .ref 86, .int (0 : Int32)]) (fr' := (12, [some (.ref 61), some (.ref 86), some (.int x2), none], [], 0, 0)) rfl (T_Mo_areSo (by omega) (by decide) hc ?_)
      show sm_W sm_sh X (sm_C sm_sh X sm_P D) me_213 Q (12, [some (.ref 61), some (.ref 86), some (.int x2), none], [.int r2], 0, 0) (I, J, sm_rf t d)
      obtain ⟨g3, h⟩ := sd_gu_go h
      obtain ⟨g4, h⟩ := sd_gu_go h
      refine sm_W.runL (sm_C_mono D) 8 (G := sm_in (14 : Int32) 16 = true ∧ sm_in (0 : Int32) 10 = true ∧ True) (e := (sd_up I 89 0 (I 86 14))) (fr' := fun _ => (20, [some (.ref 61), some (.ref 86), some (.int x2), some (.int r2)], [], 0, 0)) (M' := fun I5 => (I5, J, sm_rf t d)) rfl h ⟨g3, g4, trivial⟩ (fun I5 h => ?_)
      obtain ⟨g6, h⟩ := sd_gu_go h
      obtain ⟨g7, h⟩ := sd_gu_go h
      refine sm_W.runL (sm_C_mono D) 7 (G := sm_in (15 : Int32) 16 = true ∧ sm_in (1 : Int32) 10 = true ∧ True) (e := (sd_up I5 89 1 (I5 86 15))) (fr' := fun _ => (27, [some (.ref 61), some (.ref 86), some (.int x2), some (.int r2)], [], 0, 0)) (M' := fun I8 => (I8, J, sm_rf t d)) rfl h ⟨g6, g7, trivial⟩ (fun I8 h => ?_)
      refine sm_W.run (sm_C_mono D) 6 (G := True) (fr' := (33, [some (.ref 61), some (.ref 86), some (.int x2), some (.int r2)], [.int x2, .ref 61, .int r2, .int (2 : Int32), .ref 89], 0, 0)) (M' := (I8, J, sm_rf t d)) rfl trivial ?_
      obtain ⟨r9, hc, h⟩ := sd_q1_go h
      refine sm_W.cal (sm_C_mono D) (y := 197) (as := [.ref 61, .int x2]) (fr' := (34, [some (.ref 61), some (.ref 86), some (.int x2), some (.int r2)], [.int r2, .int (2 : Int32), .ref 89], 0, 0)) rfl (T_Mo_ofSide (by omega) hc ?_)
      show sm_W sm_sh X (sm_C sm_sh X sm_P D) me_213 Q (34, [some (.ref 61), some (.ref 86), some (.int x2), some (.int r2)], [.int r9, .int r2, .int (2 : Int32), .ref 89], 0, 0) (I8, J, sm_rf t d)
      refine sm_W.run (sm_C_mono D) 1 (G := True) (fr' := (35, [some (.ref 61), some (.ref 86), some (.int x2), some (.int r2)], [.int (r2 &&& r9), .int (2 : Int32), .ref 89], 0, 0)) (M' := (I8, J, sm_rf t d)) rfl trivial ?_
      obtain ⟨r10, hc, h⟩ := sd_q1_go h
      refine sm_W.cal (sm_C_mono D) (y := 161) (as := [.int (r2 &&& r9)]) (fr' := (36, [some (.ref 61), some (.ref 86), some (.int x2), some (.int r2)], [.int (2 : Int32), .ref 89], 0, 0)) rfl (T_Mo_bits (by omega) hc ?_)
      show sm_W sm_sh X (sm_C sm_sh X sm_P D) me_213 Q (36, [some (.ref 61), some (.ref 86), some (.int x2), some (.int r2)], [.int r10, .int (2 : Int32), .ref 89], 0, 0) (I8, J, sm_rf t d)
      obtain ⟨g11, h⟩ := sd_gu_go h
      refine sm_W.runL (sm_C_mono D) 1 (G := sm_in (2 : Int32) 10 = true ∧ True) (e := (sd_up I8 89 2 r10)) (fr' := fun _ => (37, [some (.ref 61), some (.ref 86), some (.int x2), some (.int r2)], [], 0, 0)) (M' := fun I12 => (I12, J, sm_rf t d)) rfl h ⟨g11, trivial⟩ (fun I12 h => ?_)
      refine sm_W.run (sm_C_mono D) 8 (G := True) (fr' := (45, [some (.ref 61), some (.ref 86), some (.int x2), some (.int r2)], [.int ((1 : Int32) - x2), .ref 61, .int r2, .int (3 : Int32), .ref 89], 0, 0)) (M' := (I12, J, sm_rf t d)) rfl trivial ?_
      obtain ⟨r13, hc, h⟩ := sd_q1_go h
      refine sm_W.cal (sm_C_mono D) (y := 197) (as := [.ref 61, .int ((1 : Int32) - x2)]) (fr' := (46, [some (.ref 61), some (.ref 86), some (.int x2), some (.int r2)], [.int r2, .int (3 : Int32), .ref 89], 0, 0)) rfl (T_Mo_ofSide (by omega) hc ?_)
      show sm_W sm_sh X (sm_C sm_sh X sm_P D) me_213 Q (46, [some (.ref 61), some (.ref 86), some (.int x2), some (.int r2)], [.int r13, .int r2, .int (3 : Int32), .ref 89], 0, 0) (I12, J, sm_rf t d)
      refine sm_W.run (sm_C_mono D) 1 (G := True) (fr' := (47, [some (.ref 61), some (.ref 86), some (.int x2), some (.int r2)], [.int (r2 &&& r13), .int (3 : Int32), .ref 89], 0, 0)) (M' := (I12, J, sm_rf t d)) rfl trivial ?_
      obtain ⟨r14, hc, h⟩ := sd_q1_go h
      refine sm_W.cal (sm_C_mono D) (y := 161) (as := [.int (r2 &&& r13)]) (fr' := (48, [some (.ref 61), some (.ref 86), some (.int x2), some (.int r2)], [.int (3 : Int32), .ref 89], 0, 0)) rfl (T_Mo_bits (by omega) hc ?_)
      show sm_W sm_sh X (sm_C sm_sh X sm_P D) me_213 Q (48, [some (.ref 61), some (.ref 86), some (.int x2), some (.int r2)], [.int r14, .int (3 : Int32), .ref 89], 0, 0) (I12, J, sm_rf t d)
      obtain ⟨g15, h⟩ := sd_gu_go h
      refine sm_W.runL (sm_C_mono D) 1 (G := sm_in (3 : Int32) 10 = true ∧ True) (e := (sd_up I12 89 3 r14)) (fr' := fun _ => (49, [some (.ref 61), some (.ref 86), some (.int x2), some (.int r2)], [], 0, 0)) (M' := fun I16 => (I16, J, sm_rf t d)) rfl h ⟨g15, trivial⟩ (fun I16 h => ?_)
      refine sm_W.run (sm_C_mono D) 6 (G := True) (fr' := (55, [some (.ref 61), some (.ref 86), some (.int x2), some (.int r2)], [.int (2 : Int32), .ref 86, .ref 61, .int (4 : Int32), .ref 89], 0, 0)) (M' := (I16, J, sm_rf t d)) rfl trivial ?_
      obtain ⟨r17, hc, h⟩ := sd_q1_go h
      refine sm_W.cal (sm_C_mono D) (y := 196) (as := [.ref 61, .ref 86, .int (2 : Int32)]) (fr' := (56, [some (.ref 61), some (.ref 86), some (.int x2), some (.int r2)], [.int (4 : Int32), .ref 89], 0, 0)) rfl (T_Mo_areSo (by omega) (by decide) hc ?_)
      show sm_W sm_sh X (sm_C sm_sh X sm_P D) me_213 Q (56, [some (.ref 61), some (.ref 86), some (.int x2), some (.int r2)], [.int r17, .int (4 : Int32), .ref 89], 0, 0) (I16, J, sm_rf t d)
      refine sm_W.run (sm_C_mono D) 2 (G := True) (fr' := (58, [some (.ref 61), some (.ref 86), some (.int x2), some (.int r2)], [.int x2, .ref 61, .int r17, .int (4 : Int32), .ref 89], 0, 0)) (M' := (I16, J, sm_rf t d)) rfl trivial ?_
      obtain ⟨r18, hc, h⟩ := sd_q1_go h
      refine sm_W.cal (sm_C_mono D) (y := 197) (as := [.ref 61, .int x2]) (fr' := (59, [some (.ref 61), some (.ref 86), some (.int x2), some (.int r2)], [.int r17, .int (4 : Int32), .ref 89], 0, 0)) rfl (T_Mo_ofSide (by omega) hc ?_)
      show sm_W sm_sh X (sm_C sm_sh X sm_P D) me_213 Q (59, [some (.ref 61), some (.ref 86), some (.int x2), some (.int r2)], [.int r18, .int r17, .int (4 : Int32), .ref 89], 0, 0) (I16, J, sm_rf t d)
      refine sm_W.run (sm_C_mono D) 1 (G := True) (fr' := (60, [some (.ref 61), some (.ref 86), some (.int x2), some (.int r2)], [.int (r17 &&& r18), .int (4 : Int32), .ref 89], 0, 0)) (M' := (I16, J, sm_rf t d)) rfl trivial ?_
      obtain ⟨r19, hc, h⟩ := sd_q1_go h
      refine sm_W.cal (sm_C_mono D) (y := 161) (as := [.int (r17 &&& r18)]) (fr' := (61, [some (.ref 61), some (.ref 86), some (.int x2), some (.int r2)], [.int (4 : Int32), .ref 89], 0, 0)) rfl (T_Mo_bits (by omega) hc ?_)
      show sm_W sm_sh X (sm_C sm_sh X sm_P D) me_213 Q (61, [some (.ref 61), some (.ref 86), some (.int x2), some (.int r2)], [.int r19, .int (4 : Int32), .ref 89], 0, 0) (I16, J, sm_rf t d)
      obtain ⟨g20, h⟩ := sd_gu_go h
      refine sm_W.runL (sm_C_mono D) 1 (G := sm_in (4 : Int32) 10 = true ∧ True) (e := (sd_up I16 89 4 r19)) (fr' := fun _ => (62, [some (.ref 61), some (.ref 86), some (.int x2), some (.int r2)], [], 0, 0)) (M' := fun I21 => (I21, J, sm_rf t d)) rfl h ⟨g20, trivial⟩ (fun I21 h => ?_)
      refine sm_W.run (sm_C_mono D) 5 (G := True) (fr' := (67, [some (.ref 61), some (.ref 86), some (.int x2), some (.int r2)], [.int r2, .ref 61, .int (5 : Int32), .ref 89], 0, 0)) (M' := (I21, J, sm_rf t d)) rfl trivial ?_
      obtain ⟨r22, hc, h⟩ := sd_q1_go h
      refine sm_W.cal (sm_C_mono D) (y := 202) (as := [.ref 61, .int r2]) (fr' := (68, [some (.ref 61), some (.ref 86), some (.int x2), some (.int r2)], [.int (5 : Int32), .ref 89], 0, 0)) rfl (T_Mo_sungBy (by omega) hc ?_)
      show sm_W sm_sh X (sm_C sm_sh X sm_P D) me_213 Q (68, [some (.ref 61), some (.ref 86), some (.int x2), some (.int r2)], [.int r22, .int (5 : Int32), .ref 89], 0, 0) (I21, J, sm_rf t d)
      obtain ⟨r23, hc, h⟩ := sd_q1_go h
      refine sm_W.cal (sm_C_mono D) (y := 161) (as := [.int r22]) (fr' := (69, [some (.ref 61), some (.ref 86), some (.int x2), some (.int r2)], [.int (5 : Int32), .ref 89], 0, 0)) rfl (T_Mo_bits (by omega) hc ?_)
      show sm_W sm_sh X (sm_C sm_sh X sm_P D) me_213 Q (69, [some (.ref 61), some (.ref 86), some (.int x2), some (.int r2)], [.int r23, .int (5 : Int32), .ref 89], 0, 0) (I21, J, sm_rf t d)
      obtain ⟨g24, h⟩ := sd_gu_go h
      refine sm_W.runL (sm_C_mono D) 1 (G := sm_in (5 : Int32) 10 = true ∧ True) (e := (sd_up I21 89 5 r23)) (fr' := fun _ => (70, [some (.ref 61), some (.ref 86), some (.int x2), some (.int r2)], [], 0, 0)) (M' := fun I25 => (I25, J, sm_rf t d)) rfl h ⟨g24, trivial⟩ (fun I25 h => ?_)
      obtain ⟨g26, h⟩ := sd_gu_go h
      refine sm_W.run (sm_C_mono D) 5 (G := sm_in x2 4 = true ∧ True) (fr' := (75, [some (.ref 61), some (.ref 86), some (.int x2), some (.int r2)], [.int (I25 70 (Int32.toNatClampNeg x2)), .ref 61], 0, 0)) (M' := (I25, J, sm_rf t d)) rfl ⟨g26, trivial⟩ ?_
      obtain ⟨r27, I28, hc, h⟩ := sd_q2_go h
      refine sm_W.cal (sm_C_mono D) (y := 212) (as := [.ref 61, .int (I25 70 (Int32.toNatClampNeg x2))]) (fr' := (76, [some (.ref 61), some (.ref 86), some (.int x2), some (.int r2)], [], 0, 0)) rfl (T_Mo_reckons (by omega) hc ?_)
      show sm_W sm_sh X (sm_C sm_sh X sm_P D) me_213 Q (76, [some (.ref 61), some (.ref 86), some (.int x2), some (.int r2)], [.int r27], 0, 0) (I28, J, sm_rf t d)
      refine sm_W.run (sm_C_mono D) 1 (G := True) (fr' := (if decide (r27 ≤ 0) = true then 79 else 77, [some (.ref 61), some (.ref 86), some (.int x2), some (.int r2)], [], 0, 0)) (M' := (I28, J, sm_rf t d)) rfl trivial (sm_W.iteD h (fun hc h => ?_) (fun hc h => ?_))
      · refine sm_W.run (sm_C_mono D) 1 (G := True) (fr' := (80, [some (.ref 61), some (.ref 86), some (.int x2), some (.int r2)], [.int (0 : Int32)], 0, 0)) (M' := (I28, J, sm_rf t d)) rfl trivial ?_
        cases h
        exact sm_W.ret (sm_C_mono D) rfl hQ
      · refine sm_W.run (sm_C_mono D) 2 (G := True) (fr' := (80, [some (.ref 61), some (.ref 86), some (.int x2), some (.int r2)], [.int (1 : Int32)], 0, 0)) (M' := (I28, J, sm_rf t d)) rfl trivial ?_
        cases h
        exact sm_W.ret (sm_C_mono D) rfl hQ
    · refine sm_W.run (sm_C_mono D) 1 (G := True) (fr' := (7, [some (.ref 61), some (.ref 86), some (.int x2), none], [.int (0 : Int32)], 0, 0)) (M' := (I, J, sm_rf t d)) rfl trivial ?_
      cases h
      exact sm_W.ret (sm_C_mono D) rfl hQ
  · skip
    obtain ⟨g1, h⟩ := sd_gu_go h
    refine sm_W.run (sm_C_mono D) 6 (G := sm_in x2 4 = true ∧ True) (fr' := (if decide (¬ (I 70 (Int32.toNatClampNeg x2)) = (-1 : Int32)) = true then 8 else 6, [some (.ref 61), some (.ref 87), some (.int x2), none], [], 0, 0)) (M' := (I, J, sm_rf t d)) rfl ⟨g1, trivial⟩ (sm_W.iteD h (fun hc h => ?_) (fun hc h => ?_))
    · refine sm_W.run (sm_C_mono D) 3 (G := True) (fr' := (11, [some (.ref 61), some (.ref 87), some (.int x2), none], [.int (0 : Int32), .ref 87, .ref 61], 0, 0)) (M' := (I, J, sm_rf t d)) rfl trivial ?_
      obtain ⟨r2, hc, h⟩ := sd_q1_go h
      refine sm_W.cal (sm_C_mono D) (y := 196) (as := [.ref 61, .ref 87, .int (0 : Int32)]) (fr' := (12, [some (.ref 61), some (.ref 87), some (.int x2), none], [], 0, 0)) rfl (T_Mo_areSo (by omega) (by decide) hc ?_)
      show sm_W sm_sh X (sm_C sm_sh X sm_P D) me_213 Q (12, [some (.ref 61), some (.ref 87), some (.int x2), none], [.int r2], 0, 0) (I, J, sm_rf t d)
      obtain ⟨g3, h⟩ := sd_gu_go h
      obtain ⟨g4, h⟩ := sd_gu_go h
      refine sm_W.runL (sm_C_mono D) 8 (G := sm_in (14 : Int32) 16 = true ∧ sm_in (0 : Int32) 10 = true ∧ True) (e := (sd_up I 89 0 (I 87 14))) (fr' := fun _ => (20, [some (.ref 61), some (.ref 87), some (.int x2), some (.int r2)], [], 0, 0)) (M' := fun I5 => (I5, J, sm_rf t d)) rfl h ⟨g3, g4, trivial⟩ (fun I5 h => ?_)
      obtain ⟨g6, h⟩ := sd_gu_go h
      obtain ⟨g7, h⟩ := sd_gu_go h
      refine sm_W.runL (sm_C_mono D) 7 (G := sm_in (15 : Int32) 16 = true ∧ sm_in (1 : Int32) 10 = true ∧ True) (e := (sd_up I5 89 1 (I5 87 15))) (fr' := fun _ => (27, [some (.ref 61), some (.ref 87), some (.int x2), some (.int r2)], [], 0, 0)) (M' := fun I8 => (I8, J, sm_rf t d)) rfl h ⟨g6, g7, trivial⟩ (fun I8 h => ?_)
      refine sm_W.run (sm_C_mono D) 6 (G := True) (fr' := (33, [some (.ref 61), some (.ref 87), some (.int x2), some (.int r2)], [.int x2, .ref 61, .int r2, .int (2 : Int32), .ref 89], 0, 0)) (M' := (I8, J, sm_rf t d)) rfl trivial ?_
      obtain ⟨r9, hc, h⟩ := sd_q1_go h
      refine sm_W.cal (sm_C_mono D) (y := 197) (as := [.ref 61, .int x2]) (fr' := (34, [some (.ref 61), some (.ref 87), some (.int x2), some (.int r2)], [.int r2, .int (2 : Int32), .ref 89], 0, 0)) rfl (T_Mo_ofSide (by omega) hc ?_)
      show sm_W sm_sh X (sm_C sm_sh X sm_P D) me_213 Q (34, [some (.ref 61), some (.ref 87), some (.int x2), some (.int r2)], [.int r9, .int r2, .int (2 : Int32), .ref 89], 0, 0) (I8, J, sm_rf t d)
      refine sm_W.run (sm_C_mono D) 1 (G := True) (fr' := (35, [some (.ref 61), some (.ref 87), some (.int x2), some (.int r2)], [.int (r2 &&& r9), .int (2 : Int32), .ref 89], 0, 0)) (M' := (I8, J, sm_rf t d)) rfl trivial ?_
      obtain ⟨r10, hc, h⟩ := sd_q1_go h
      refine sm_W.cal (sm_C_mono D) (y := 161) (as := [.int (r2 &&& r9)]) (fr' := (36, [some (.ref 61), some (.ref 87), some (.int x2), some (.int r2)], [.int (2 : Int32), .ref 89], 0, 0)) rfl (T_Mo_bits (by omega) hc ?_)
      show sm_W sm_sh X (sm_C sm_sh X sm_P D) me_213 Q (36, [some (.ref 61), some (.ref 87), some (.int x2), some (.int r2)], [.int r10, .int (2 : Int32), .ref 89], 0, 0) (I8, J, sm_rf t d)
      obtain ⟨g11, h⟩ := sd_gu_go h
      refine sm_W.runL (sm_C_mono D) 1 (G := sm_in (2 : Int32) 10 = true ∧ True) (e := (sd_up I8 89 2 r10)) (fr' := fun _ => (37, [some (.ref 61), some (.ref 87), some (.int x2), some (.int r2)], [], 0, 0)) (M' := fun I12 => (I12, J, sm_rf t d)) rfl h ⟨g11, trivial⟩ (fun I12 h => ?_)
      refine sm_W.run (sm_C_mono D) 8 (G := True) (fr' := (45, [some (.ref 61), some (.ref 87), some (.int x2), some (.int r2)], [.int ((1 : Int32) - x2), .ref 61, .int r2, .int (3 : Int32), .ref 89], 0, 0)) (M' := (I12, J, sm_rf t d)) rfl trivial ?_
      obtain ⟨r13, hc, h⟩ := sd_q1_go h
      refine sm_W.cal (sm_C_mono D) (y := 197) (as := [.ref 61, .int ((1 : Int32) - x2)]) (fr' := (46, [some (.ref 61), some (.ref 87), some (.int x2), some (.int r2)], [.int r2, .int (3 : Int32), .ref 89], 0, 0)) rfl (T_Mo_ofSide (by omega) hc ?_)
      show sm_W sm_sh X (sm_C sm_sh X sm_P D) me_213 Q (46, [some (.ref 61), some (.ref 87), some (.int x2), some (.int r2)], [.int r13, .int r2, .int (3 : Int32), .ref 89], 0, 0) (I12, J, sm_rf t d)
      refine sm_W.run (sm_C_mono D) 1 (G := True) (fr' := (47, [some (.ref 61), some (.ref 87), some (.int x2), some (.int r2)], [.int (r2 &&& r13), .int (3 : Int32), .ref 89], 0, 0)) (M' := (I12, J, sm_rf t d)) rfl trivial ?_
      obtain ⟨r14, hc, h⟩ := sd_q1_go h
      refine sm_W.cal (sm_C_mono D) (y := 161) (as := [.int (r2 &&& r13)]) (fr' := (48, [some (.ref 61), some (.ref 87), some (.int x2), some (.int r2)], [.int (3 : Int32), .ref 89], 0, 0)) rfl (T_Mo_bits (by omega) hc ?_)
      show sm_W sm_sh X (sm_C sm_sh X sm_P D) me_213 Q (48, [some (.ref 61), some (.ref 87), some (.int x2), some (.int r2)], [.int r14, .int (3 : Int32), .ref 89], 0, 0) (I12, J, sm_rf t d)
      obtain ⟨g15, h⟩ := sd_gu_go h
      refine sm_W.runL (sm_C_mono D) 1 (G := sm_in (3 : Int32) 10 = true ∧ True) (e := (sd_up I12 89 3 r14)) (fr' := fun _ => (49, [some (.ref 61), some (.ref 87), some (.int x2), some (.int r2)], [], 0, 0)) (M' := fun I16 => (I16, J, sm_rf t d)) rfl h ⟨g15, trivial⟩ (fun I16 h => ?_)
      refine sm_W.run (sm_C_mono D) 6 (G := True) (fr' := (55, [some (.ref 61), some (.ref 87), some (.int x2), some (.int r2)], [.int (2 : Int32), .ref 87, .ref 61, .int (4 : Int32), .ref 89], 0, 0)) (M' := (I16, J, sm_rf t d)) rfl trivial ?_
      obtain ⟨r17, hc, h⟩ := sd_q1_go h
      refine sm_W.cal (sm_C_mono D) (y := 196) (as := [.ref 61, .ref 87, .int (2 : Int32)]) (fr' := (56, [some (.ref 61), some (.ref 87), some (.int x2), some (.int r2)], [.int (4 : Int32), .ref 89], 0, 0)) rfl (T_Mo_areSo (by omega) (by decide) hc ?_)
      show sm_W sm_sh X (sm_C sm_sh X sm_P D) me_213 Q (56, [some (.ref 61), some (.ref 87), some (.int x2), some (.int r2)], [.int r17, .int (4 : Int32), .ref 89], 0, 0) (I16, J, sm_rf t d)
      refine sm_W.run (sm_C_mono D) 2 (G := True) (fr' := (58, [some (.ref 61), some (.ref 87), some (.int x2), some (.int r2)], [.int x2, .ref 61, .int r17, .int (4 : Int32), .ref 89], 0, 0)) (M' := (I16, J, sm_rf t d)) rfl trivial ?_
      obtain ⟨r18, hc, h⟩ := sd_q1_go h
      refine sm_W.cal (sm_C_mono D) (y := 197) (as := [.ref 61, .int x2]) (fr' := (59, [some (.ref 61), some (.ref 87), some (.int x2), some (.int r2)], [.int r17, .int (4 : Int32), .ref 89], 0, 0)) rfl (T_Mo_ofSide (by omega) hc ?_)
      show sm_W sm_sh X (sm_C sm_sh X sm_P D) me_213 Q (59, [some (.ref 61), some (.ref 87), some (.int x2), some (.int r2)], [.int r18, .int r17, .int (4 : Int32), .ref 89], 0, 0) (I16, J, sm_rf t d)
      refine sm_W.run (sm_C_mono D) 1 (G := True) (fr' := (60, [some (.ref 61), some (.ref 87), some (.int x2), some (.int r2)], [.int (r17 &&& r18), .int (4 : Int32), .ref 89], 0, 0)) (M' := (I16, J, sm_rf t d)) rfl trivial ?_
      obtain ⟨r19, hc, h⟩ := sd_q1_go h
      refine sm_W.cal (sm_C_mono D) (y := 161) (as := [.int (r17 &&& r18)]) (fr' := (61, [some (.ref 61), some (.ref 87), some (.int x2), some (.int r2)], [.int (4 : Int32), .ref 89], 0, 0)) rfl (T_Mo_bits (by omega) hc ?_)
      show sm_W sm_sh X (sm_C sm_sh X sm_P D) me_213 Q (61, [some (.ref 61), some (.ref 87), some (.int x2), some (.int r2)], [.int r19, .int (4 : Int32), .ref 89], 0, 0) (I16, J, sm_rf t d)
      obtain ⟨g20, h⟩ := sd_gu_go h
      refine sm_W.runL (sm_C_mono D) 1 (G := sm_in (4 : Int32) 10 = true ∧ True) (e := (sd_up I16 89 4 r19)) (fr' := fun _ => (62, [some (.ref 61), some (.ref 87), some (.int x2), some (.int r2)], [], 0, 0)) (M' := fun I21 => (I21, J, sm_rf t d)) rfl h ⟨g20, trivial⟩ (fun I21 h => ?_)
      refine sm_W.run (sm_C_mono D) 5 (G := True) (fr' := (67, [some (.ref 61), some (.ref 87), some (.int x2), some (.int r2)], [.int r2, .ref 61, .int (5 : Int32), .ref 89], 0, 0)) (M' := (I21, J, sm_rf t d)) rfl trivial ?_
      obtain ⟨r22, hc, h⟩ := sd_q1_go h
      refine sm_W.cal (sm_C_mono D) (y := 202) (as := [.ref 61, .int r2]) (fr' := (68, [some (.ref 61), some (.ref 87), some (.int x2), some (.int r2)], [.int (5 : Int32), .ref 89], 0, 0)) rfl (T_Mo_sungBy (by omega) hc ?_)
      show sm_W sm_sh X (sm_C sm_sh X sm_P D) me_213 Q (68, [some (.ref 61), some (.ref 87), some (.int x2), some (.int r2)], [.int r22, .int (5 : Int32), .ref 89], 0, 0) (I21, J, sm_rf t d)
      obtain ⟨r23, hc, h⟩ := sd_q1_go h
      refine sm_W.cal (sm_C_mono D) (y := 161) (as := [.int r22]) (fr' := (69, [some (.ref 61), some (.ref 87), some (.int x2), some (.int r2)], [.int (5 : Int32), .ref 89], 0, 0)) rfl (T_Mo_bits (by omega) hc ?_)
      show sm_W sm_sh X (sm_C sm_sh X sm_P D) me_213 Q (69, [some (.ref 61), some (.ref 87), some (.int x2), some (.int r2)], [.int r23, .int (5 : Int32), .ref 89], 0, 0) (I21, J, sm_rf t d)
      obtain ⟨g24, h⟩ := sd_gu_go h
      refine sm_W.runL (sm_C_mono D) 1 (G := sm_in (5 : Int32) 10 = true ∧ True) (e := (sd_up I21 89 5 r23)) (fr' := fun _ => (70, [some (.ref 61), some (.ref 87), some (.int x2), some (.int r2)], [], 0, 0)) (M' := fun I25 => (I25, J, sm_rf t d)) rfl h ⟨g24, trivial⟩ (fun I25 h => ?_)
      obtain ⟨g26, h⟩ := sd_gu_go h
      refine sm_W.run (sm_C_mono D) 5 (G := sm_in x2 4 = true ∧ True) (fr' := (75, [some (.ref 61), some (.ref 87), some (.int x2), some (.int r2)], [.int (I25 70 (Int32.toNatClampNeg x2)), .ref 61], 0, 0)) (M' := (I25, J, sm_rf t d)) rfl ⟨g26, trivial⟩ ?_
      obtain ⟨r27, I28, hc, h⟩ := sd_q2_go h
      refine sm_W.cal (sm_C_mono D) (y := 212) (as := [.ref 61, .int (I25 70 (Int32.toNatClampNeg x2))]) (fr' := (76, [some (.ref 61), some (.ref 87), some (.int x2), some (.int r2)], [], 0, 0)) rfl (T_Mo_reckons (by omega) hc ?_)
      show sm_W sm_sh X (sm_C sm_sh X sm_P D) me_213 Q (76, [some (.ref 61), some (.ref 87), some (.int x2), some (.int r2)], [.int r27], 0, 0) (I28, J, sm_rf t d)
      refine sm_W.run (sm_C_mono D) 1 (G := True) (fr' := (if decide (r27 ≤ 0) = true then 79 else 77, [some (.ref 61), some (.ref 87), some (.int x2), some (.int r2)], [], 0, 0)) (M' := (I28, J, sm_rf t d)) rfl trivial (sm_W.iteD h (fun hc h => ?_) (fun hc h => ?_))
      · refine sm_W.run (sm_C_mono D) 1 (G := True) (fr' := (80, [some (.ref 61), some (.ref 87), some (.int x2), some (.int r2)], [.int (0 : Int32)], 0, 0)) (M' := (I28, J, sm_rf t d)) rfl trivial ?_
        cases h
        exact sm_W.ret (sm_C_mono D) rfl hQ
      · refine sm_W.run (sm_C_mono D) 2 (G := True) (fr' := (80, [some (.ref 61), some (.ref 87), some (.int x2), some (.int r2)], [.int (1 : Int32)], 0, 0)) (M' := (I28, J, sm_rf t d)) rfl trivial ?_
        cases h
        exact sm_W.ret (sm_C_mono D) rfl hQ
    · refine sm_W.run (sm_C_mono D) 1 (G := True) (fr' := (7, [some (.ref 61), some (.ref 87), some (.int x2), none], [.int (0 : Int32)], 0, 0)) (M' := (I, J, sm_rf t d)) rfl trivial ?_
      cases h
      exact sm_W.ret (sm_C_mono D) rfl hQ
theorem T_Mo_isHolding {X : Nat × (Nat → Int32)} {t d D : Nat} {Q : sm_Q} {I : sm_MI} {J : sm_MJ} {p1 : Nat} {x2 : Int32} {rz : Int32} {Iz : sm_MI}
    (hD : 6 ≤ D) (hp : (p1 = 86) ∨ (p1 = 87)) (h : F_Mo_isHolding p1 x2 I = some (rz, Iz)) (hQ : Q (.inl (some (.int rz))) (Iz, J, sm_rf t d)) : sm_C sm_sh X sm_P D 213 [.ref 61, .ref p1, .int x2] (I, J, sm_rf t d) Q := by
  cases D with
  | zero => omega
  | succ D => exact sm_C.of (me := me_213) (L := [some (.ref 61), some (.ref p1), some (.int x2), none]) rfl rfl rfl (sm_W.forget (L' := [some (.ref 61), some (.ref p1), some (.int x2), none]) ⟨rfl, ⟨rfl, ⟨rfl, trivial⟩⟩⟩ (G_Mo_isHolding (by omega) hp h hQ))
