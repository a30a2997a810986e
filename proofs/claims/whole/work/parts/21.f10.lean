/-! ===== printed by wip/gen/emit_parts.py: what the methods compute ===== -/
-- 142 VM_aimed
noncomputable def F_VM_aimed (t : Nat) (x1 : Int32) (I : sm_MI) : Option ((Int32 ⊕ Nat) × sm_MI) :=
  sd_t1 (F_VM_checkWarring x1) (fun r1 =>
    sd_q2 (F_War_target t 9 x1 I) fun r2 I3 =>
    some (.inl r2, I3))
    (fun r1 => some (.inr r1, I))
theorem G_VM_aimed {X : Nat × (Nat → Int32)} {t d D : Nat} {Q : sm_Q} {I : sm_MI} {J : sm_MJ} {x1 : Int32} {rz : (Int32 ⊕ Nat)} {Iz : sm_MI}
    (hD : 4 ≤ D) (ht : t = 21 ∨ t = 41) (h : F_VM_aimed t x1 I = some (rz, Iz)) (hQ1 : ∀ v, rz = .inl v → Q (.inl (some (.int v))) (Iz, J, sm_rf t d)) (hQ2 : ∀ E, rz = .inr E → Q (.inr E) (Iz, J, sm_rf t d))  : sm_W sm_sh X (sm_C sm_sh X sm_P D) me_142 Q (0, [some (.ref 0), some (.int x1)], [], 0, 0) (I, J, sm_rf t d) := by
  unfold F_VM_aimed at h
  rcases ht with rfl | rfl
  · skip
    refine sm_W.run (sm_C_mono D) 2 (G := True) (fr' := (2, [some (.ref 0), some (.int x1)], [.int x1, .ref 0], 0, 0)) (M' := (I, J, sm_rf 21 d)) rfl trivial ?_
    rcases sd_t1_go h with ⟨r1, hc, h⟩ | ⟨r1, hc, h⟩
    · refine sm_W.cal (sm_C_mono D) (y := 155) (as := [.ref 0, .int x1]) (fr' := (3, [some (.ref 0), some (.int x1)], [], 1, 6)) rfl (T_VM_checkWarring (by omega) hc (fun _ e => ?_) (fun _ e => by cases e))
      cases e
      show sm_W sm_sh X (sm_C sm_sh X sm_P D) me_142 Q (3, [some (.ref 0), some (.int x1)], [], 1, 6) (I, J, sm_rf 21 d)
      refine sm_W.run (sm_C_mono D) 6 (G := True) (fr' := (9, [some (.ref 0), some (.int x1)], [.int x1, .ref 9, .ref 21], 1, 6)) (M' := (I, J, sm_rf 21 d)) rfl trivial ?_
      obtain ⟨r2, I3, hc, h⟩ := sd_q2_go h
      refine sm_W.cal (sm_C_mono D) (y := 94) (as := [.ref 21, .ref 9, .int x1]) (fr' := (10, [some (.ref 0), some (.int x1)], [], 1, 6)) rfl (T_War_target (by omega) (by decide) hc ?_)
      show sm_W sm_sh X (sm_C sm_sh X sm_P D) me_142 Q (10, [some (.ref 0), some (.int x1)], [.int r2], 1, 6) (I3, J, sm_rf 21 d)
      cases h
      exact sm_W.ret (sm_C_mono D) rfl (hQ1 _ rfl)
    · refine sm_W.cal (sm_C_mono D) (y := 155) (as := [.ref 0, .int x1]) (fr' := (3, [some (.ref 0), some (.int x1)], [], 1, 6)) rfl (T_VM_checkWarring (by omega) hc (fun _ e => by cases e) (fun _ e => ?_))
      cases e
      cases h
      exact ⟨rfl, hQ2 _ rfl⟩
  · skip
    refine sm_W.run (sm_C_mono D) 2 (G := True) (fr' := (2, [some (.ref 0), some (.int x1)], [.int x1, .ref 0], 0, 0)) (M' := (I, J, sm_rf 41 d)) rfl trivial ?_
    rcases sd_t1_go h with ⟨r1, hc, h⟩ | ⟨r1, hc, h⟩
    · refine sm_W.cal (sm_C_mono D) (y := 155) (as := [.ref 0, .int x1]) (fr' := (3, [some (.ref 0), some (.int x1)], [], 1, 6)) rfl (T_VM_checkWarring (by omega) hc (fun _ e => ?_) (fun _ e => by cases e))
      cases e
      show sm_W sm_sh X (sm_C sm_sh X sm_P D) me_142 Q (3, [some (.ref 0), some (.int x1)], [], 1, 6) (I, J, sm_rf 41 d)
      refine sm_W.run (sm_C_mono D) 6 (G := True) (fr' := (9, [some (.ref 0), some (.int x1)], [.int x1, .ref 9, .ref 41], 1, 6)) (M' := (I, J, sm_rf 41 d)) rfl trivial ?_
      obtain ⟨r2, I3, hc, h⟩ := sd_q2_go h
      refine sm_W.cal (sm_C_mono D) (y := 94) (as := [.ref 41, .ref 9, .int x1]) (fr' := (10, [some (.ref 0), some (.int x1)], [], 1, 6)) rfl (T_War_target (by omega) (by decide) hc ?_)
      show sm_W sm_sh X (sm_C sm_sh X sm_P D) me_142 Q (10, [some (.ref 0), some (.int x1)], [.int r2], 1, 6) (I3, J, sm_rf 41 d)
      cases h
      exact sm_W.ret (sm_C_mono D) rfl (hQ1 _ rfl)
    · refine sm_W.cal (sm_C_mono D) (y := 155) (as := [.ref 0, .int x1]) (fr' := (3, [some (.ref 0), some (.int x1)], [], 1, 6)) rfl (T_VM_checkWarring (by omega) hc (fun _ e => by cases e) (fun _ e => ?_))
      cases e
      cases h
      exact ⟨rfl, hQ2 _ rfl⟩
theorem T_VM_aimed {X : Nat × (Nat → Int32)} {t d D : Nat} {Q : sm_Q} {I : sm_MI} {J : sm_MJ} {x1 : Int32} {rz : (Int32 ⊕ Nat)} {Iz : sm_MI}
    (hD : 5 ≤ D) (ht : t = 21 ∨ t = 41) (h : F_VM_aimed t x1 I = some (rz, Iz)) (hQ1 : ∀ v, rz = .inl v → Q (.inl (some (.int v))) (Iz, J, sm_rf t d)) (hQ2 : ∀ E, rz = .inr E → Q (.inr E) (Iz, J, sm_rf t d)) : sm_C sm_sh X sm_P D 142 [.ref 0, .int x1] (I, J, sm_rf t d) Q := by
  cases D with
  | zero => omega
  | succ D => exact sm_C.of (me := me_142) (L := [some (.ref 0), some (.int x1)]) rfl rfl rfl (sm_W.forget (L' := [some (.ref 0), some (.int x1)]) ⟨rfl, ⟨rfl, trivial⟩⟩ (G_VM_aimed (by omega) ht h hQ1 hQ2))
-- 143 VM_peace
noncomputable def F_VM_peace_8B (t : Nat) (k8 : Int32 → sm_MI → Option (Int32 × sm_MI)) (x1 : Int32) (I : sm_MI) : Option (Int32 × sm_MI) :=
  if (99 : Int32) ≤ x1 then
    some ((99 : Int32), I)
  else
    sd_q2 (F_War_passDay t 20 I) fun r1 I2 =>
    if r1 = 0 then
      k8 (x1 + (1 : Int32)) I2
    else
      some (x1, I2)
noncomputable def F_VM_peace_8 (t : Nat) (n : Nat) : Int32 → sm_MI → Option (Int32 × sm_MI) :=
  sd_fix (fun k x1 I => F_VM_peace_8B t k x1 I) (fun _ _ => none) n
noncomputable def F_VM_peace (t : Nat) (I : sm_MI) : Option (Int32 × sm_MI) :=
  sd_q1 (F_State_copyFrom 20 9 I) fun I1 =>
  F_VM_peace_8 t sd_fu (0 : Int32) I1
theorem G_VM_peace_8B {X : Nat × (Nat → Int32)} {t d D : Nat} {Q : sm_Q} {I : sm_MI} {J : sm_MJ} {k8 : Int32 → sm_MI → Option (Int32 × sm_MI)} {x1 : Int32} {rz : Int32} {Iz : sm_MI}
    (hD : 6 ≤ D) (ht : t = 21 ∨ t = 41) (h : F_VM_peace_8B t k8 x1 I = some (rz, Iz)) (hQ : Q (.inl (some (.int rz))) (Iz, J, sm_rf t d)) (hk8 : ∀ (x1 : Int32) (I : sm_MI), k8 x1 I = some (rz, Iz) → sm_W sm_sh X (sm_C sm_sh X sm_P D) me_143 Q (8, [some (.ref 0), some (.int x1)], [], 0, 0) (I, J, sm_rf t d)) : sm_W sm_sh X (sm_C sm_sh X sm_P D) me_143 Q (8, [some (.ref 0), some (.int x1)], [], 0, 0) (I, J, sm_rf t d) := by
  unfold F_VM_peace_8B at h
  rcases ht with rfl | rfl
  · skip
    refine sm_W.run (sm_C_mono D) 3 (G := True) (fr' := (if decide ((99 : Int32) ≤ x1) = true then 21 else 11, [some (.ref 0), some (.int x1)], [], 0, 0)) (M' := (I, J, sm_rf 21 d)) rfl trivial (sm_W.iteD h (fun hc h => ?_) (fun hc h => ?_))
    · refine sm_W.run (sm_C_mono D) 1 (G := True) (fr' := (22, [some (.ref 0), some (.int x1)], [.int (99 : Int32)], 0, 0)) (M' := (I, J, sm_rf 21 d)) rfl trivial ?_
      cases h
      exact sm_W.ret (sm_C_mono D) rfl hQ
    · refine sm_W.run (sm_C_mono D) 4 (G := True) (fr' := (15, [some (.ref 0), some (.int x1)], [.ref 20, .ref 21], 0, 0)) (M' := (I, J, sm_rf 21 d)) rfl trivial ?_
      obtain ⟨r1, I2, hc, h⟩ := sd_q2_go h
      refine sm_W.cal (sm_C_mono D) (y := 98) (as := [.ref 21, .ref 20]) (fr' := (16, [some (.ref 0), some (.int x1)], [], 0, 0)) rfl (T_War_passDay (by omega) (by decide) hc ?_)
      show sm_W sm_sh X (sm_C sm_sh X sm_P D) me_143 Q (16, [some (.ref 0), some (.int x1)], [.int r1], 0, 0) (I2, J, sm_rf 21 d)
      refine sm_W.run (sm_C_mono D) 1 (G := True) (fr' := (if decide (r1 = 0) = true then 19 else 17, [some (.ref 0), some (.int x1)], [], 0, 0)) (M' := (I2, J, sm_rf 21 d)) rfl trivial (sm_W.iteD h (fun hc h => ?_) (fun hc h => ?_))
      · refine sm_W.run (sm_C_mono D) 2 (G := True) (fr' := (8, [some (.ref 0), some (.int (x1 + (1 : Int32)))], [], 0, 0)) (M' := (I2, J, sm_rf 21 d)) rfl trivial ?_
        exact (hk8 _ _ h)
      · refine sm_W.run (sm_C_mono D) 1 (G := True) (fr' := (18, [some (.ref 0), some (.int x1)], [.int x1], 0, 0)) (M' := (I2, J, sm_rf 21 d)) rfl trivial ?_
        cases h
        exact sm_W.ret (sm_C_mono D) rfl hQ
  · skip
    refine sm_W.run (sm_C_mono D) 3 (G := True) (fr' := (if decide ((99 : Int32) ≤ x1) = true then 21 else 11, [some (.ref 0), some (.int x1)], [], 0, 0)) (M' := (I, J, sm_rf 41 d)) rfl trivial (sm_W.iteD h (fun hc h => ?_) (fun hc h => ?_))
    · refine sm_W.run (sm_C_mono D) 1 (G := True) (fr' := (22, [some (.ref 0), some (.int x1)], [.int (99 : Int32)], 0, 0)) (M' := (I, J, sm_rf 41 d)) rfl trivial ?_
      cases h
      exact sm_W.ret (sm_C_mono D) rfl hQ
    · refine sm_W.run (sm_C_mono D) 4 (G := True) (fr' := (15, [some (.ref 0), some (.int x1)], [.ref 20, .ref 41], 0, 0)) (M' := (I, J, sm_rf 41 d)) rfl trivial ?_
      obtain ⟨r1, I2, hc, h⟩ := sd_q2_go h
      refine sm_W.cal (sm_C_mono D) (y := 98) (as := [.ref 41, .ref 20]) (fr' := (16, [some (.ref 0), some (.int x1)], [], 0, 0)) rfl (T_War_passDay (by omega) (by decide) hc ?_)
      show sm_W sm_sh X (sm_C sm_sh X sm_P D) me_143 Q (16, [some (.ref 0), some (.int x1)], [.int r1], 0, 0) (I2, J, sm_rf 41 d)
      refine sm_W.run (sm_C_mono D) 1 (G := True) (fr' := (if decide (r1 = 0) = true then 19 else 17, [some (.ref 0), some (.int x1)], [], 0, 0)) (M' := (I2, J, sm_rf 41 d)) rfl trivial (sm_W.iteD h (fun hc h => ?_) (fun hc h => ?_))
      · refine sm_W.run (sm_C_mono D) 2 (G := True) (fr' := (8, [some (.ref 0), some (.int (x1 + (1 : Int32)))], [], 0, 0)) (M' := (I2, J, sm_rf 41 d)) rfl trivial ?_
        exact (hk8 _ _ h)
      · refine sm_W.run (sm_C_mono D) 1 (G := True) (fr' := (18, [some (.ref 0), some (.int x1)], [.int x1], 0, 0)) (M' := (I2, J, sm_rf 41 d)) rfl trivial ?_
        cases h
        exact sm_W.ret (sm_C_mono D) rfl hQ
theorem G_VM_peace_8 {X : Nat × (Nat → Int32)} {t d D : Nat} {Q : sm_Q} {J : sm_MJ} {rz : Int32} {Iz : sm_MI}
    (hD : 6 ≤ D) (ht : t = 21 ∨ t = 41) (hQ : Q (.inl (some (.int rz))) (Iz, J, sm_rf t d))  : ∀ (n : Nat) (x1 : Int32) (I : sm_MI), F_VM_peace_8 t n x1 I = some (rz, Iz) → sm_W sm_sh X (sm_C sm_sh X sm_P D) me_143 Q (8, [some (.ref 0), some (.int x1)], [], 0, 0) (I, J, sm_rf t d) := by
  intro n
  induction n with
  | zero => intro x1 I h; cases (show (none : Option (Int32 × sm_MI)) = some (rz, Iz) from h)
  | succ n ih => intro x1 I h; exact G_VM_peace_8B hD ht (show F_VM_peace_8B t (F_VM_peace_8 t n) x1 I = some (rz, Iz) from h) hQ  ih
theorem G_VM_peace {X : Nat × (Nat → Int32)} {t d D : Nat} {Q : sm_Q} {I : sm_MI} {J : sm_MJ} {rz : Int32} {Iz : sm_MI}
    (hD : 6 ≤ D) (ht : t = 21 ∨ t = 41) (h : F_VM_peace t I = some (rz, Iz)) (hQ : Q (.inl (some (.int rz))) (Iz, J, sm_rf t d))  : sm_W sm_sh X (sm_C sm_sh X sm_P D) me_143 Q (0, [some (.ref 0), none], [], 0, 0) (I, J, sm_rf t d) := by
  unfold F_VM_peace at h
  rcases ht with rfl | rfl
  · skip
    refine sm_W.run (sm_C_mono D) 5 (G := True) (fr' := (5, [some (.ref 0), none], [.ref 9, .ref 20], 0, 0)) (M' := (I, J, sm_rf 21 d)) rfl trivial ?_
    obtain ⟨I1, hc, h⟩ := sd_q1_go h
    refine sm_W.cal (sm_C_mono D) (y := 58) (as := [.ref 20, .ref 9]) (fr' := (6, [some (.ref 0), none], [], 0, 0)) rfl (T_State_copyFrom (by omega) (by decide) hc ?_)
    show sm_W sm_sh X (sm_C sm_sh X sm_P D) me_143 Q (6, [some (.ref 0), none], [], 0, 0) (I1, J, sm_rf 21 d)
    refine sm_W.run (sm_C_mono D) 2 (G := True) (fr' := (8, [some (.ref 0), some (.int (0 : Int32))], [], 0, 0)) (M' := (I1, J, sm_rf 21 d)) rfl trivial ?_
    exact (G_VM_peace_8 hD (by decide) hQ sd_fu _ _ h)
  · skip
    refine sm_W.run (sm_C_mono D) 5 (G := True) (fr' := (5, [some (.ref 0), none], [.ref 9, .ref 20], 0, 0)) (M' := (I, J, sm_rf 41 d)) rfl trivial ?_
    obtain ⟨I1, hc, h⟩ := sd_q1_go h
    refine sm_W.cal (sm_C_mono D) (y := 58) (as := [.ref 20, .ref 9]) (fr' := (6, [some (.ref 0), none], [], 0, 0)) rfl (T_State_copyFrom (by omega) (by decide) hc ?_)
    show sm_W sm_sh X (sm_C sm_sh X sm_P D) me_143 Q (6, [some (.ref 0), none], [], 0, 0) (I1, J, sm_rf 41 d)
    refine sm_W.run (sm_C_mono D) 2 (G := True) (fr' := (8, [some (.ref 0), some (.int (0 : Int32))], [], 0, 0)) (M' := (I1, J, sm_rf 41 d)) rfl trivial ?_
    exact (G_VM_peace_8 hD (by decide) hQ sd_fu _ _ h)
theorem T_VM_peace {X : Nat × (Nat → Int32)} {t d D : Nat} {Q : sm_Q} {I : sm_MI} {J : sm_MJ} {rz : Int32} {Iz : sm_MI}
    (hD : 7 ≤ D) (ht : t = 21 ∨ t = 41) (h : F_VM_peace t I = some (rz, Iz)) (hQ : Q (.inl (some (.int rz))) (Iz, J, sm_rf t d)) : sm_C sm_sh X sm_P D 143 [.ref 0] (I, J, sm_rf t d) Q := by
  cases D with
  | zero => omega
  | succ D => exact sm_C.of (me := me_143) (L := [some (.ref 0), none]) rfl rfl rfl (sm_W.forget (L' := [some (.ref 0), none]) ⟨rfl, trivial⟩ (G_VM_peace (by omega) ht h hQ))
-- 144 VM_silent
noncomputable def F_VM_silent_29 (t : Nat) (k8 : Int32 → sm_MI → Option (Int32 × sm_MI)) (x1 : Int32) (I : sm_MI) : Option (Int32 × sm_MI) :=
  sd_q2 (F_War_passDay t 20 I) fun r1 I2 =>
  k8 (x1 + (1 : Int32)) I2
noncomputable def F_VM_silent_8B (t : Nat) (k8 : Int32 → sm_MI → Option (Int32 × sm_MI)) (x1 : Int32) (I : sm_MI) : Option (Int32 × sm_MI) :=
  if (99 : Int32) ≤ x1 then
    some ((-1 : Int32), I)
  else
    sd_q1 (F_Valley_isEvening t (I 20 3) I) fun r1 =>
    if r1 = 0 then
      F_VM_silent_29 t k8 x1 I
    else
      sd_q1 (F_Valley_singable t (I 20 0) I) fun r2 =>
      if ¬ r2 = 0 then
        F_VM_silent_29 t k8 x1 I
      else
        some ((I 20 3), I)
noncomputable def F_VM_silent_8 (t : Nat) (n : Nat) : Int32 → sm_MI → Option (Int32 × sm_MI) :=
  sd_fix (fun k x1 I => F_VM_silent_8B t k x1 I) (fun _ _ => none) n
noncomputable def F_VM_silent (t : Nat) (I : sm_MI) : Option (Int32 × sm_MI) :=
  sd_q1 (F_State_copyFrom 20 9 I) fun I1 =>
  F_VM_silent_8 t sd_fu (0 : Int32) I1
theorem G_VM_silent_29 {X : Nat × (Nat → Int32)} {t d D : Nat} {Q : sm_Q} {I : sm_MI} {J : sm_MJ} {k8 : Int32 → sm_MI → Option (Int32 × sm_MI)} {x1 : Int32} {rz : Int32} {Iz : sm_MI}
    (hD : 6 ≤ D) (ht : t = 21 ∨ t = 41) (h : F_VM_silent_29 t k8 x1 I = some (rz, Iz)) (hQ : Q (.inl (some (.int rz))) (Iz, J, sm_rf t d)) (hk8 : ∀ (x1 : Int32) (I : sm_MI), k8 x1 I = some (rz, Iz) → sm_W sm_sh X (sm_C sm_sh X sm_P D) me_144 Q (8, [some (.ref 0), some (.int x1)], [], 0, 0) (I, J, sm_rf t d)) : sm_W sm_sh X (sm_C sm_sh X sm_P D) me_144 Q (29, [some (.ref 0), some (.int x1)], [], 0, 0) (I, J, sm_rf t d) := by
  unfold F_VM_silent_29 at h
  rcases ht with rfl | rfl
  · skip
    refine sm_W.run (sm_C_mono D) 4 (G := True) (fr' := (33, [some (.ref 0), some (.int x1)], [.ref 20, .ref 21], 0, 0)) (M' := (I, J, sm_rf 21 d)) rfl trivial ?_
    obtain ⟨r1, I2, hc, h⟩ := sd_q2_go h
    refine sm_W.cal (sm_C_mono D) (y := 98) (as := [.ref 21, .ref 20]) (fr' := (34, [some (.ref 0), some (.int x1)], [], 0, 0)) rfl (T_War_passDay (by omega) (by decide) hc ?_)
    show sm_W sm_sh X (sm_C sm_sh X sm_P D) me_144 Q (34, [some (.ref 0), some (.int x1)], [.int r1], 0, 0) (I2, J, sm_rf 21 d)
    refine sm_W.run (sm_C_mono D) 3 (G := True) (fr' := (8, [some (.ref 0), some (.int (x1 + (1 : Int32)))], [], 0, 0)) (M' := (I2, J, sm_rf 21 d)) rfl trivial ?_
    exact (hk8 _ _ h)
  · skip
    refine sm_W.run (sm_C_mono D) 4 (G := True) (fr' := (33, [some (.ref 0), some (.int x1)], [.ref 20, .ref 41], 0, 0)) (M' := (I, J, sm_rf 41 d)) rfl trivial ?_
    obtain ⟨r1, I2, hc, h⟩ := sd_q2_go h
    refine sm_W.cal (sm_C_mono D) (y := 98) (as := [.ref 41, .ref 20]) (fr' := (34, [some (.ref 0), some (.int x1)], [], 0, 0)) rfl (T_War_passDay (by omega) (by decide) hc ?_)
    show sm_W sm_sh X (sm_C sm_sh X sm_P D) me_144 Q (34, [some (.ref 0), some (.int x1)], [.int r1], 0, 0) (I2, J, sm_rf 41 d)
    refine sm_W.run (sm_C_mono D) 3 (G := True) (fr' := (8, [some (.ref 0), some (.int (x1 + (1 : Int32)))], [], 0, 0)) (M' := (I2, J, sm_rf 41 d)) rfl trivial ?_
    exact (hk8 _ _ h)
theorem G_VM_silent_8B {X : Nat × (Nat → Int32)} {t d D : Nat} {Q : sm_Q} {I : sm_MI} {J : sm_MJ} {k8 : Int32 → sm_MI → Option (Int32 × sm_MI)} {x1 : Int32} {rz : Int32} {Iz : sm_MI}
    (hD : 6 ≤ D) (ht : t = 21 ∨ t = 41) (h : F_VM_silent_8B t k8 x1 I = some (rz, Iz)) (hQ : Q (.inl (some (.int rz))) (Iz, J, sm_rf t d)) (hk8 : ∀ (x1 : Int32) (I : sm_MI), k8 x1 I = some (rz, Iz) → sm_W sm_sh X (sm_C sm_sh X sm_P D) me_144 Q (8, [some (.ref 0), some (.int x1)], [], 0, 0) (I, J, sm_rf t d)) : sm_W sm_sh X (sm_C sm_sh X sm_P D) me_144 Q (8, [some (.ref 0), some (.int x1)], [], 0, 0) (I, J, sm_rf t d) := by
  unfold F_VM_silent_8B at h
  rcases ht with rfl | rfl
  · skip
    refine sm_W.run (sm_C_mono D) 3 (G := True) (fr' := (if decide ((99 : Int32) ≤ x1) = true then 37 else 11, [some (.ref 0), some (.int x1)], [], 0, 0)) (M' := (I, J, sm_rf 21 d)) rfl trivial (sm_W.iteD h (fun hc h => ?_) (fun hc h => ?_))
    · refine sm_W.run (sm_C_mono D) 1 (G := True) (fr' := (38, [some (.ref 0), some (.int x1)], [.int (-1 : Int32)], 0, 0)) (M' := (I, J, sm_rf 21 d)) rfl trivial ?_
      cases h
      exact sm_W.ret (sm_C_mono D) rfl hQ
    · refine sm_W.run (sm_C_mono D) 5 (G := True) (fr' := (16, [some (.ref 0), some (.int x1)], [.int (I 20 3), .ref 21], 0, 0)) (M' := (I, J, sm_rf 21 d)) rfl trivial ?_
      obtain ⟨r1, hc, h⟩ := sd_q1_go h
      refine sm_W.cal (sm_C_mono D) (y := 92) (as := [.ref 21, .int (I 20 3)]) (fr' := (17, [some (.ref 0), some (.int x1)], [], 0, 0)) rfl (T_Valley_isEvening (by omega) (by decide) hc ?_)
      show sm_W sm_sh X (sm_C sm_sh X sm_P D) me_144 Q (17, [some (.ref 0), some (.int x1)], [.int r1], 0, 0) (I, J, sm_rf 21 d)
      refine sm_W.run (sm_C_mono D) 1 (G := True) (fr' := (if decide (r1 = 0) = true then 29 else 18, [some (.ref 0), some (.int x1)], [], 0, 0)) (M' := (I, J, sm_rf 21 d)) rfl trivial (sm_W.iteD h (fun hc h => ?_) (fun hc h => ?_))
      · exact (G_VM_silent_29 hD (by decide) h hQ hk8)
      · refine sm_W.run (sm_C_mono D) 5 (G := True) (fr' := (23, [some (.ref 0), some (.int x1)], [.int (I 20 0), .ref 21], 0, 0)) (M' := (I, J, sm_rf 21 d)) rfl trivial ?_
        obtain ⟨r2, hc, h⟩ := sd_q1_go h
        refine sm_W.cal (sm_C_mono D) (y := 89) (as := [.ref 21, .int (I 20 0)]) (fr' := (24, [some (.ref 0), some (.int x1)], [], 0, 0)) rfl (T_Valley_singable (by omega) (by decide) hc ?_)
        show sm_W sm_sh X (sm_C sm_sh X sm_P D) me_144 Q (24, [some (.ref 0), some (.int x1)], [.int r2], 0, 0) (I, J, sm_rf 21 d)
        refine sm_W.run (sm_C_mono D) 1 (G := True) (fr' := (if decide (¬ r2 = 0) = true then 29 else 25, [some (.ref 0), some (.int x1)], [], 0, 0)) (M' := (I, J, sm_rf 21 d)) rfl trivial (sm_W.iteD h (fun hc h => ?_) (fun hc h => ?_))
        · exact (G_VM_silent_29 hD (by decide) h hQ hk8)
        · refine sm_W.run (sm_C_mono D) 3 (G := True) (fr' := (28, [some (.ref 0), some (.int x1)], [.int (I 20 3)], 0, 0)) (M' := (I, J, sm_rf 21 d)) rfl trivial ?_
          cases h
          exact sm_W.ret (sm_C_mono D) rfl hQ
  · skip
    refine sm_W.run (sm_C_mono D) 3 (G := True) (fr' := (if decide ((99 : Int32) ≤ x1) = true then 37 else 11, [some (.ref 0), some (.int x1)], [], 0, 0)) (M' := (I, J, sm_rf 41 d)) rfl trivial (sm_W.iteD h (fun hc h => ?_) (fun hc h => ?_))
    · refine sm_W.run (sm_C_mono D) 1 (G := True) (fr' := (38, [some (.ref 0), some (.int x1)], [.int (-1 : Int32)], 0, 0)) (M' := (I, J, sm_rf 41 d)) rfl trivial ?_
      cases h
      exact sm_W.ret (sm_C_mono D) rfl hQ
    · refine sm_W.run (sm_C_mono D) 5 (G := True) (fr' := (16, [some (.ref 0), some (.int x1)], [.int (I 20 3), .ref 41], 0, 0)) (M' := (I, J, sm_rf 41 d)) rfl trivial ?_
      obtain ⟨r1, hc, h⟩ := sd_q1_go h
      refine sm_W.cal (sm_C_mono D) (y := 92) (as := [.ref 41, .int (I 20 3)]) (fr' := (17, [some (.ref 0), some (.int x1)], [], 0, 0)) rfl (T_Valley_isEvening (by omega) (by decide) hc ?_)
      show sm_W sm_sh X (sm_C sm_sh X sm_P D) me_144 Q (17, [some (.ref 0), some (.int x1)], [.int r1], 0, 0) (I, J, sm_rf 41 d)
      refine sm_W.run (sm_C_mono D) 1 (G := True) (fr' := (if decide (r1 = 0) = true then 29 else 18, [some (.ref 0), some (.int x1)], [], 0, 0)) (M' := (I, J, sm_rf 41 d)) rfl trivial (sm_W.iteD h (fun hc h => ?_) (fun hc h => ?_))
      · exact (G_VM_silent_29 hD (by decide) h hQ hk8)
      · refine sm_W.run (sm_C_mono D) 5 (G := True) (fr' := (23, [some (.ref 0), some (.int x1)], [.int (I 20 0), .ref 41], 0, 0)) (M' := (I, J, sm_rf 41 d)) rfl trivial ?_
        obtain ⟨r2, hc, h⟩ := sd_q1_go h
        refine sm_W.cal (sm_C_mono D) (y := 89) (as := [.ref 41, .int (I 20 0)]) (fr' := (24, [some (.ref 0), some (.int x1)], [], 0, 0)) rfl (T_Valley_singable (by omega) (by decide) hc ?_)
        show sm_W sm_sh X (sm_C sm_sh X sm_P D) me_144 Q (24, [some (.ref 0), some (.int x1)], [.int r2], 0, 0) (I, J, sm_rf 41 d)
        refine sm_W.run (sm_C_mono D) 1 (G := True) (fr' := (if decide (¬ r2 = 0) = true then 29 else 25, [some (.ref 0), some (.int x1)], [], 0, 0)) (M' := (I, J, sm_rf 41 d)) rfl trivial (sm_W.iteD h (fun hc h => ?_) (fun hc h => ?_))
        · exact (G_VM_silent_29 hD (by decide) h hQ hk8)
        · refine sm_W.run (sm_C_mono D) 3 (G := True) (fr' := (28, [some (.ref 0), some (.int x1)], [.int (I 20 3)], 0, 0)) (M' := (I, J, sm_rf 41 d)) rfl trivial ?_
          cases h
          exact sm_W.ret (sm_C_mono D) rfl hQ
theorem G_VM_silent_8 {X : Nat × (Nat → Int32)} {t d D : Nat} {Q : sm_Q} {J : sm_MJ} {rz : Int32} {Iz : sm_MI}
    (hD : 6 ≤ D) (ht : t = 21 ∨ t = 41) (hQ : Q (.inl (some (.int rz))) (Iz, J, sm_rf t d))  : ∀ (n : Nat) (x1 : Int32) (I : sm_MI), F_VM_silent_8 t n x1 I = some (rz, Iz) → sm_W sm_sh X (sm_C sm_sh X sm_P D) me_144 Q (8, [some (.ref 0), some (.int x1)], [], 0, 0) (I, J, sm_rf t d) := by
  intro n
  induction n with
  | zero => intro x1 I h; cases (show (none : Option (Int32 × sm_MI)) = some (rz, Iz) from h)
  | succ n ih => intro x1 I h; exact G_VM_silent_8B hD ht (show F_VM_silent_8B t (F_VM_silent_8 t n) x1 I = some (rz, Iz) from h) hQ  ih
theorem G_VM_silent {X : Nat × (Nat → Int32)} {t d D : Nat} {Q : sm_Q} {I : sm_MI} {J : sm_MJ} {rz : Int32} {Iz : sm_MI}
    (hD : 6 ≤ D) (ht : t = 21 ∨ t = 41) (h : F_VM_silent t I = some (rz, Iz)) (hQ : Q (.inl (some (.int rz))) (Iz, J, sm_rf t d))  : sm_W sm_sh X (sm_C sm_sh X sm_P D) me_144 Q (0, [some (.ref 0), none], [], 0, 0) (I, J, sm_rf t d) := by
  unfold F_VM_silent at h
  rcases ht with rfl | rfl
  · skip
    refine sm_W.run (sm_C_mono D) 5 (G := True) (fr' := (5, [some (.ref 0), none], [.ref 9, .ref 20], 0, 0)) (M' := (I, J, sm_rf 21 d)) rfl trivial ?_
    obtain ⟨I1, hc, h⟩ := sd_q1_go h
    refine sm_W.cal (sm_C_mono D) (y := 58) (as := [.ref 20, .ref 9]) (fr' := (6, [some (.ref 0), none], [], 0, 0)) rfl (T_State_copyFrom (by omega) (by decide) hc ?_)
    show sm_W sm_sh X (sm_C sm_sh X sm_P D) me_144 Q (6, [some (.ref 0), none], [], 0, 0) (I1, J, sm_rf 21 d)
    refine sm_W.run (sm_C_mono D) 2 (G := True) (fr' := (8, [some (.ref 0), some (.int (0 : Int32))], [], 0, 0)) (M' := (I1, J, sm_rf 21 d)) rfl trivial ?_
    exact (G_VM_silent_8 hD (by decide) hQ sd_fu _ _ h)
  · skip
    refine sm_W.run (sm_C_mono D) 5 (G := True) (fr' := (5, [some (.ref 0), none], [.ref 9, .ref 20], 0, 0)) (M' := (I, J, sm_rf 41 d)) rfl trivial ?_
    obtain ⟨I1, hc, h⟩ := sd_q1_go h
    refine sm_W.cal (sm_C_mono D) (y := 58) (as := [.ref 20, .ref 9]) (fr' := (6, [some (.ref 0), none], [], 0, 0)) rfl (T_State_copyFrom (by omega) (by decide) hc ?_)
    show sm_W sm_sh X (sm_C sm_sh X sm_P D) me_144 Q (6, [some (.ref 0), none], [], 0, 0) (I1, J, sm_rf 41 d)
    refine sm_W.run (sm_C_mono D) 2 (G := True) (fr' := (8, [some (.ref 0), some (.int (0 : Int32))], [], 0, 0)) (M' := (I1, J, sm_rf 41 d)) rfl trivial ?_
    exact (G_VM_silent_8 hD (by decide) hQ sd_fu _ _ h)
theorem T_VM_silent {X : Nat × (Nat → Int32)} {t d D : Nat} {Q : sm_Q} {I : sm_MI} {J : sm_MJ} {rz : Int32} {Iz : sm_MI}
    (hD : 7 ≤ D) (ht : t = 21 ∨ t = 41) (h : F_VM_silent t I = some (rz, Iz)) (hQ : Q (.inl (some (.int rz))) (Iz, J, sm_rf t d)) : sm_C sm_sh X sm_P D 144 [.ref 0] (I, J, sm_rf t d) Q := by
  cases D with
  | zero => omega
  | succ D => exact sm_C.of (me := me_144) (L := [some (.ref 0), none]) rfl rfl rfl (sm_W.forget (L' := [some (.ref 0), none]) ⟨rfl, trivial⟩ (G_VM_silent (by omega) ht h hQ))
-- 156 VM_checkDays
noncomputable def F_VM_checkDays (x1 : Int32) : Option ((Unit ⊕ Nat)) :=
  if x1 < 0 then
    some (.inr 0)
  else
    if x1 ≤ (99 : Int32) then
      some (.inl ())
    else
      some (.inr 0)
theorem G_VM_checkDays {X : Nat × (Nat → Int32)} {t d D : Nat} {Q : sm_Q} {I : sm_MI} {J : sm_MJ} {x1 : Int32} {rz : (Unit ⊕ Nat)}
    (hD : 0 ≤ D) (h : F_VM_checkDays x1 = some (rz)) (hQ1 : ∀ v, rz = .inl v → Q (.inl none) (I, J, sm_rf t d)) (hQ2 : ∀ E, rz = .inr E → Q (.inr E) (I, J, sm_rf t d))  : sm_W sm_sh X (sm_C sm_sh X sm_P D) me_156 Q (0, [none, some (.int x1)], [], 0, 0) (I, J, sm_rf t d) := by
  unfold F_VM_checkDays at h
  refine sm_W.run (sm_C_mono D) 2 (G := True) (fr' := (if decide (x1 < 0) = true then 5 else 2, [none, some (.int x1)], [], 0, 0)) (M' := (I, J, sm_rf t d)) rfl trivial (sm_W.iteD h (fun hc h => ?_) (fun hc h => ?_))
  · cases h
    exact sm_W.thr (sm_C_mono D) rfl (hQ2 _ rfl)
  · refine sm_W.run (sm_C_mono D) 3 (G := True) (fr' := (if decide (x1 ≤ (99 : Int32)) = true then 10 else 5, [none, some (.int x1)], [], 0, 0)) (M' := (I, J, sm_rf t d)) rfl trivial (sm_W.iteD h (fun hc h => ?_) (fun hc h => ?_))
    · cases h
      exact sm_W.ret (sm_C_mono D) rfl (hQ1 _ rfl)
    · cases h
      exact sm_W.thr (sm_C_mono D) rfl (hQ2 _ rfl)
theorem T_VM_checkDays {X : Nat × (Nat → Int32)} {t d D : Nat} {Q : sm_Q} {I : sm_MI} {J : sm_MJ} {x1 : Int32} {rz : (Unit ⊕ Nat)}
    (hD : 1 ≤ D) (h : F_VM_checkDays x1 = some (rz)) (hQ1 : ∀ v, rz = .inl v → Q (.inl none) (I, J, sm_rf t d)) (hQ2 : ∀ E, rz = .inr E → Q (.inr E) (I, J, sm_rf t d)) : sm_C sm_sh X sm_P D 156 [.ref 0, .int x1] (I, J, sm_rf t d) Q := by
  cases D with
  | zero => omega
  | succ D => exact sm_C.of (me := me_156) (L := [some (.ref 0), some (.int x1)]) rfl rfl rfl (sm_W.forget (L' := [none, some (.int x1)]) ⟨rfl, trivial⟩ (G_VM_checkDays (by omega) h hQ1 hQ2))
-- 145 VM_falls
noncomputable def F_VM_falls_13B (t : Nat) (k13 : Int32 → Int32 → Int32 → sm_MI → Option ((Int32 ⊕ Nat) × sm_MI)) (x1 : Int32) (x2 : Int32) (x3 : Int32) (I : sm_MI) : Option ((Int32 ⊕ Nat) × sm_MI) :=
  if x1 ≤ x3 then
    some (.inl x2, I)
  else
    sd_q2 (F_War_passDay t 20 I) fun r1 I2 =>
    sd_q1 (F_Int_bitCount r1) fun r3 =>
    sd_lt (x2 + r3) fun a4 =>
    k13 x1 a4 (x3 + (1 : Int32)) I2
noncomputable def F_VM_falls_13 (t : Nat) (n : Nat) : Int32 → Int32 → Int32 → sm_MI → Option ((Int32 ⊕ Nat) × sm_MI) :=
  sd_fix (fun k x1 x2 x3 I => F_VM_falls_13B t k x1 x2 x3 I) (fun _ _ _ _ => none) n
noncomputable def F_VM_falls (t : Nat) (x1 : Int32) (I : sm_MI) : Option ((Int32 ⊕ Nat) × sm_MI) :=
  sd_t1 (F_VM_checkDays x1) (fun r1 =>
    sd_q1 (F_State_copyFrom 20 9 I) fun I2 =>
    F_VM_falls_13 t sd_fu x1 (0 : Int32) (0 : Int32) I2)
    (fun r1 => some (.inr r1, I))
theorem G_VM_falls_13B {X : Nat × (Nat → Int32)} {t d D : Nat} {Q : sm_Q} {I : sm_MI} {J : sm_MJ} {k13 : Int32 → Int32 → Int32 → sm_MI → Option ((Int32 ⊕ Nat) × sm_MI)} {x1 : Int32} {x2 : Int32} {x3 : Int32} {rz : (Int32 ⊕ Nat)} {Iz : sm_MI}
    (hD : 6 ≤ D) (ht : t = 21 ∨ t = 41) (h : F_VM_falls_13B t k13 x1 x2 x3 I = some (rz, Iz)) (hQ1 : ∀ v, rz = .inl v → Q (.inl (some (.int v))) (Iz, J, sm_rf t d)) (hQ2 : ∀ E, rz = .inr E → Q (.inr E) (Iz, J, sm_rf t d)) (hk13 : ∀ (x1 : Int32) (x2 : Int32) (x3 : Int32) (I : sm_MI), k13 x1 x2 x3 I = some (rz, Iz) → sm_W sm_sh X (sm_C sm_sh X sm_P D) me_145 Q (13, [some (.ref 0), some (.int x1), some (.int x2), some (.int x3)], [], 1, 6) (I, J, sm_rf t d)) : sm_W sm_sh X (sm_C sm_sh X sm_P D) me_145 Q (13, [some (.ref 0), some (.int x1), some (.int x2), some (.int x3)], [], 1, 6) (I, J, sm_rf t d) := by
  unfold F_VM_falls_13B at h
  rcases ht with rfl | rfl
  · skip
    refine sm_W.run (sm_C_mono D) 3 (G := True) (fr' := (if decide (x1 ≤ x3) = true then 27 else 16, [some (.ref 0), some (.int x1), some (.int x2), some (.int x3)], [], 1, 6)) (M' := (I, J, sm_rf 21 d)) rfl trivial (sm_W.iteD h (fun hc h => ?_) (fun hc h => ?_))
    · refine sm_W.run (sm_C_mono D) 1 (G := True) (fr' := (28, [some (.ref 0), some (.int x1), some (.int x2), some (.int x3)], [.int x2], 1, 6)) (M' := (I, J, sm_rf 21 d)) rfl trivial ?_
      cases h
      exact sm_W.ret (sm_C_mono D) rfl (hQ1 _ rfl)
    · refine sm_W.run (sm_C_mono D) 5 (G := True) (fr' := (21, [some (.ref 0), some (.int x1), some (.int x2), some (.int x3)], [.ref 20, .ref 21, .int x2], 1, 6)) (M' := (I, J, sm_rf 21 d)) rfl trivial ?_
      obtain ⟨r1, I2, hc, h⟩ := sd_q2_go h
      refine sm_W.cal (sm_C_mono D) (y := 98) (as := [.ref 21, .ref 20]) (fr' := (22, [some (.ref 0), some (.int x1), some (.int x2), some (.int x3)], [.int x2], 1, 6)) rfl (T_War_passDay (by omega) (by decide) hc ?_)
      show sm_W sm_sh X (sm_C sm_sh X sm_P D) me_145 Q (22, [some (.ref 0), some (.int x1), some (.int x2), some (.int x3)], [.int r1, .int x2], 1, 6) (I2, J, sm_rf 21 d)
      obtain ⟨r3, hc, h⟩ := sd_q1_go h
      refine sm_W.cal (sm_C_mono D) (y := 268) (as := [.int r1]) (fr' := (23, [some (.ref 0), some (.int x1), some (.int x2), some (.int x3)], [.int x2], 1, 6)) rfl (T_Int_bitCount (by omega) hc ?_)
      show sm_W sm_sh X (sm_C sm_sh X sm_P D) me_145 Q (23, [some (.ref 0), some (.int x1), some (.int x2), some (.int x3)], [.int r3, .int x2], 1, 6) (I2, J, sm_rf 21 d)
      refine sm_W.runL (sm_C_mono D) 2 (G := True) (e := (x2 + r3)) (fr' := fun a4 => (25, [some (.ref 0), some (.int x1), some (.int a4), some (.int x3)], [], 1, 6)) (M' := fun _ => (I2, J, sm_rf 21 d)) rfl h trivial (fun a4 h => ?_)
      refine sm_W.run (sm_C_mono D) 2 (G := True) (fr' := (13, [some (.ref 0), some (.int x1), some (.int a4), some (.int (x3 + (1 : Int32)))], [], 1, 6)) (M' := (I2, J, sm_rf 21 d)) rfl trivial ?_
      exact (hk13 _ _ _ _ h)
  · skip
    refine sm_W.run (sm_C_mono D) 3 (G := True) (fr' := (if decide (x1 ≤ x3) = true then 27 else 16, [some (.ref 0), some (.int x1), some (.int x2), some (.int x3)], [], 1, 6)) (M' := (I, J, sm_rf 41 d)) rfl trivial (sm_W.iteD h (fun hc h => ?_) (fun hc h => ?_))
    · refine sm_W.run (sm_C_mono D) 1 (G := True) (fr' := (28, [some (.ref 0), some (.int x1), some (.int x2), some (.int x3)], [.int x2], 1, 6)) (M' := (I, J, sm_rf 41 d)) rfl trivial ?_
      cases h
      exact sm_W.ret (sm_C_mono D) rfl (hQ1 _ rfl)
    · refine sm_W.run (sm_C_mono D) 5 (G := True) (fr' := (21, [some (.ref 0), some (.int x1), some (.int x2), some (.int x3)], [.ref 20, .ref 41, .int x2], 1, 6)) (M' := (I, J, sm_rf 41 d)) rfl trivial ?_
      obtain ⟨r1, I2, hc, h⟩ := sd_q2_go h
      refine sm_W.cal (sm_C_mono D) (y := 98) (as := [.ref 41, .ref 20]) (fr' := (22, [some (.ref 0), some (.int x1), some (.int x2), some (.int x3)], [.int x2], 1, 6)) rfl (T_War_passDay (by omega) (by decide) hc ?_)
      show sm_W sm_sh X (sm_C sm_sh X sm_P D) me_145 Q (22, [some (.ref 0), some (.int x1), some (.int x2), some (.int x3)], [.int r1, .int x2], 1, 6) (I2, J, sm_rf 41 d)
      obtain ⟨r3, hc, h⟩ := sd_q1_go h
      refine sm_W.cal (sm_C_mono D) (y := 268) (as := [.int r1]) (fr' := (23, [some (.ref 0), some (.int x1), some (.int x2), some (.int x3)], [.int x2], 1, 6)) rfl (T_Int_bitCount (by omega) hc ?_)
      show sm_W sm_sh X (sm_C sm_sh X sm_P D) me_145 Q (23, [some (.ref 0), some (.int x1), some (.int x2), some (.int x3)], [.int r3, .int x2], 1, 6) (I2, J, sm_rf 41 d)
      refine sm_W.runL (sm_C_mono D) 2 (G := True) (e := (x2 + r3)) (fr' := fun a4 => (25, [some (.ref 0), some (.int x1), some (.int a4), some (.int x3)], [], 1, 6)) (M' := fun _ => (I2, J, sm_rf 41 d)) rfl h trivial (fun a4 h => ?_)
      refine sm_W.run (sm_C_mono D) 2 (G := True) (fr' := (13, [some (.ref 0), some (.int x1), some (.int a4), some (.int (x3 + (1 : Int32)))], [], 1, 6)) (M' := (I2, J, sm_rf 41 d)) rfl trivial ?_
      exact (hk13 _ _ _ _ h)
theorem G_VM_falls_13 {X : Nat × (Nat → Int32)} {t d D : Nat} {Q : sm_Q} {J : sm_MJ} {rz : (Int32 ⊕ Nat)} {Iz : sm_MI}
    (hD : 6 ≤ D) (ht : t = 21 ∨ t = 41) (hQ1 : ∀ v, rz = .inl v → Q (.inl (some (.int v))) (Iz, J, sm_rf t d)) (hQ2 : ∀ E, rz = .inr E → Q (.inr E) (Iz, J, sm_rf t d))  : ∀ (n : Nat) (x1 : Int32) (x2 : Int32) (x3 : Int32) (I : sm_MI), F_VM_falls_13 t n x1 x2 x3 I = some (rz, Iz) → sm_W sm_sh X (sm_C sm_sh X sm_P D) me_145 Q (13, [some (.ref 0), some (.int x1), some (.int x2), some (.int x3)], [], 1, 6) (I, J, sm_rf t d) := by
  intro n
  induction n with
  | zero => intro x1 x2 x3 I h; cases (show (none : Option ((Int32 ⊕ Nat) × sm_MI)) = some (rz, Iz) from h)
  | succ n ih => intro x1 x2 x3 I h; exact G_VM_falls_13B hD ht (show F_VM_falls_13B t (F_VM_falls_13 t n) x1 x2 x3 I = some (rz, Iz) from h) hQ1 hQ2  ih
theorem G_VM_falls {X : Nat × (Nat → Int32)} {t d D : Nat} {Q : sm_Q} {I : sm_MI} {J : sm_MJ} {x1 : Int32} {rz : (Int32 ⊕ Nat)} {Iz : sm_MI}
    (hD : 6 ≤ D) (ht : t = 21 ∨ t = 41) (h : F_VM_falls t x1 I = some (rz, Iz)) (hQ1 : ∀ v, rz = .inl v → Q (.inl (some (.int v))) (Iz, J, sm_rf t d)) (hQ2 : ∀ E, rz = .inr E → Q (.inr E) (Iz, J, sm_rf t d))  : sm_W sm_sh X (sm_C sm_sh X sm_P D) me_145 Q (0, [some (.ref 0), some (.int x1), none, none], [], 0, 0) (I, J, sm_rf t d) := by
  unfold F_VM_falls at h
  rcases ht with rfl | rfl
  · skip
    refine sm_W.run (sm_C_mono D) 2 (G := True) (fr' := (2, [some (.ref 0), some (.int x1), none, none], [.int x1, .ref 0], 0, 0)) (M' := (I, J, sm_rf 21 d)) rfl trivial ?_
    rcases sd_t1_go h with ⟨r1, hc, h⟩ | ⟨r1, hc, h⟩
    · refine sm_W.cal (sm_C_mono D) (y := 156) (as := [.ref 0, .int x1]) (fr' := (3, [some (.ref 0), some (.int x1), none, none], [], 1, 6)) rfl (T_VM_checkDays (by omega) hc (fun _ e => ?_) (fun _ e => by cases e))
      cases e
      show sm_W sm_sh X (sm_C sm_sh X sm_P D) me_145 Q (3, [some (.ref 0), some (.int x1), none, none], [], 1, 6) (I, J, sm_rf 21 d)
      refine sm_W.run (sm_C_mono D) 5 (G := True) (fr' := (8, [some (.ref 0), some (.int x1), none, none], [.ref 9, .ref 20], 1, 6)) (M' := (I, J, sm_rf 21 d)) rfl trivial ?_
      obtain ⟨I2, hc, h⟩ := sd_q1_go h
      refine sm_W.cal (sm_C_mono D) (y := 58) (as := [.ref 20, .ref 9]) (fr' := (9, [some (.ref 0), some (.int x1), none, none], [], 1, 6)) rfl (T_State_copyFrom (by omega) (by decide) hc ?_)
      show sm_W sm_sh X (sm_C sm_sh X sm_P D) me_145 Q (9, [some (.ref 0), some (.int x1), none, none], [], 1, 6) (I2, J, sm_rf 21 d)
      refine sm_W.run (sm_C_mono D) 4 (G := True) (fr' := (13, [some (.ref 0), some (.int x1), some (.int (0 : Int32)), some (.int (0 : Int32))], [], 1, 6)) (M' := (I2, J, sm_rf 21 d)) rfl trivial ?_
      exact (G_VM_falls_13 hD (by decide) hQ1 hQ2 sd_fu _ _ _ _ h)
    · refine sm_W.cal (sm_C_mono D) (y := 156) (as := [.ref 0, .int x1]) (fr' := (3, [some (.ref 0), some (.int x1), none, none], [], 1, 6)) rfl (T_VM_checkDays (by omega) hc (fun _ e => by cases e) (fun _ e => ?_))
      cases e
      cases h
      exact ⟨rfl, hQ2 _ rfl⟩
  · skip
    refine sm_W.run (sm_C_mono D) 2 (G := True) (fr' := (2, [some (.ref 0), some (.int x1), none, none], [.int x1, .ref 0], 0, 0)) (M' := (I, J, sm_rf 41 d)) rfl trivial ?_
    rcases sd_t1_go h with ⟨r1, hc, h⟩ | ⟨r1, hc, h⟩
    · refine sm_W.cal (sm_C_mono D) (y := 156) (as := [.ref 0, .int x1]) (fr' := (3, [some (.ref 0), some (.int x1), none, none], [], 1, 6)) rfl (T_VM_checkDays (by omega) hc (fun _ e => ?_) (fun _ e => by cases e))
      cases e
      show sm_W sm_sh X (sm_C sm_sh X sm_P D) me_145 Q (3, [some (.ref 0), some (.int x1), none, none], [], 1, 6) (I, J, sm_rf 41 d)
      refine sm_W.run (sm_C_mono D) 5 (G := True) (fr' := (8, [some (.ref 0), some (.int x1), none, none], [.ref 9, .ref 20], 1, 6)) (M' := (I, J, sm_rf 41 d)) rfl trivial ?_
      obtain ⟨I2, hc, h⟩ := sd_q1_go h
      refine sm_W.cal (sm_C_mono D) (y := 58) (as := [.ref 20, .ref 9]) (fr' := (9, [some (.ref 0), some (.int x1), none, none], [], 1, 6)) rfl (T_State_copyFrom (by omega) (by decide) hc ?_)
      show sm_W sm_sh X (sm_C sm_sh X sm_P D) me_145 Q (9, [some (.ref 0), some (.int x1), none, none], [], 1, 6) (I2, J, sm_rf 41 d)
      refine sm_W.run (sm_C_mono D) 4 (G := True) (fr' := (13, [some (.ref 0), some (.int x1), some (.int (0 : Int32)), some (.int (0 : Int32))], [], 1, 6)) (M' := (I2, J, sm_rf 41 d)) rfl trivial ?_
      exact (G_VM_falls_13 hD (by decide) hQ1 hQ2 sd_fu _ _ _ _ h)
    · refine sm_W.cal (sm_C_mono D) (y := 156) (as := [.ref 0, .int x1]) (fr' := (3, [some (.ref 0), some (.int x1), none, none], [], 1, 6)) rfl (T_VM_checkDays (by omega) hc (fun _ e => by cases e) (fun _ e => ?_))
      cases e
      cases h
      exact ⟨rfl, hQ2 _ rfl⟩
theorem T_VM_falls {X : Nat × (Nat → Int32)} {t d D : Nat} {Q : sm_Q} {I : sm_MI} {J : sm_MJ} {x1 : Int32} {rz : (Int32 ⊕ Nat)} {Iz : sm_MI}
    (hD : 7 ≤ D) (ht : t = 21 ∨ t = 41) (h : F_VM_falls t x1 I = some (rz, Iz)) (hQ1 : ∀ v, rz = .inl v → Q (.inl (some (.int v))) (Iz, J, sm_rf t d)) (hQ2 : ∀ E, rz = .inr E → Q (.inr E) (Iz, J, sm_rf t d)) : sm_C sm_sh X sm_P D 145 [.ref 0, .int x1] (I, J, sm_rf t d) Q := by
  cases D with
  | zero => omega
  | succ D => exact sm_C.of (me := me_145) (L := [some (.ref 0), some (.int x1), none, none]) rfl rfl rfl (sm_W.forget (L' := [some (.ref 0), some (.int x1), none, none]) ⟨rfl, ⟨rfl, trivial⟩⟩ (G_VM_falls (by omega) ht h hQ1 hQ2))
-- 146 VM_held
noncomputable def F_VM_held_27 (t : Nat) (k16 : Int32 → Int32 → Int32 → Int32 → sm_MI → Option ((Int32 ⊕ Nat) × sm_MI)) (x1 : Int32) (x2 : Int32) (x3 : Int32) (x4 : Int32) (I : sm_MI) : Option ((Int32 ⊕ Nat) × sm_MI) :=
  sd_q2 (F_War_passDay t 20 I) fun r1 I2 =>
  k16 x1 x2 x3 (x4 + (1 : Int32)) I2
noncomputable def F_VM_held_16B (t : Nat) (k16 : Int32 → Int32 → Int32 → Int32 → sm_MI → Option ((Int32 ⊕ Nat) × sm_MI)) (x1 : Int32) (x2 : Int32) (x3 : Int32) (x4 : Int32) (I : sm_MI) : Option ((Int32 ⊕ Nat) × sm_MI) :=
  if x2 ≤ x4 then
    some (.inl x3, I)
  else
    sd_q2 (F_War_holdsFire t 20 x1 I) fun r1 I2 =>
    if r1 = 0 then
      F_VM_held_27 t k16 x1 x2 x3 x4 I2
    else
      F_VM_held_27 t k16 x1 x2 (x3 + (1 : Int32)) x4 I2
noncomputable def F_VM_held_16 (t : Nat) (n : Nat) : Int32 → Int32 → Int32 → Int32 → sm_MI → Option ((Int32 ⊕ Nat) × sm_MI) :=
  sd_fix (fun k x1 x2 x3 x4 I => F_VM_held_16B t k x1 x2 x3 x4 I) (fun _ _ _ _ _ => none) n
noncomputable def F_VM_held (t : Nat) (x1 : Int32) (x2 : Int32) (I : sm_MI) : Option ((Int32 ⊕ Nat) × sm_MI) :=
  sd_t1 (F_VM_checkWarring x1) (fun r1 =>
    sd_t1 (F_VM_checkDays x2) (fun r2 =>
      sd_q1 (F_State_copyFrom 20 9 I) fun I3 =>
      F_VM_held_16 t sd_fu x1 x2 (0 : Int32) (0 : Int32) I3)
      (fun r2 => some (.inr r2, I)))
    (fun r1 => some (.inr r1, I))
theorem G_VM_held_27 {X : Nat × (Nat → Int32)} {t d D : Nat} {Q : sm_Q} {I : sm_MI} {J : sm_MJ} {k16 : Int32 → Int32 → Int32 → Int32 → sm_MI → Option ((Int32 ⊕ Nat) × sm_MI)} {x1 : Int32} {x2 : Int32} {x3 : Int32} {x4 : Int32} {rz : (Int32 ⊕ Nat)} {Iz : sm_MI}
    (hD : 6 ≤ D) (ht : t = 21 ∨ t = 41) (h : F_VM_held_27 t k16 x1 x2 x3 x4 I = some (rz, Iz)) (hQ1 : ∀ v, rz = .inl v → Q (.inl (some (.int v))) (Iz, J, sm_rf t d)) (hQ2 : ∀ E, rz = .inr E → Q (.inr E) (Iz, J, sm_rf t d)) (hk16 : ∀ (x1 : Int32) (x2 : Int32) (x3 : Int32) (x4 : Int32) (I : sm_MI), k16 x1 x2 x3 x4 I = some (rz, Iz) → sm_W sm_sh X (sm_C sm_sh X sm_P D) me_146 Q (16, [some (.ref 0), some (.int x1), some (.int x2), some (.int x3), some (.int x4)], [], 2, 12) (I, J, sm_rf t d)) : sm_W sm_sh X (sm_C sm_sh X sm_P D) me_146 Q (27, [some (.ref 0), some (.int x1), some (.int x2), some (.int x3), some (.int x4)], [], 2, 12) (I, J, sm_rf t d) := by
  unfold F_VM_held_27 at h
  rcases ht with rfl | rfl
  · skip
    refine sm_W.run (sm_C_mono D) 4 (G := True) (fr' := (31, [some (.ref 0), some (.int x1), some (.int x2), some (.int x3), some (.int x4)], [.ref 20, .ref 21], 2, 12)) (M' := (I, J, sm_rf 21 d)) rfl trivial ?_
    obtain ⟨r1, I2, hc, h⟩ := sd_q2_go h
    refine sm_W.cal (sm_C_mono D) (y := 98) (as := [.ref 21, .ref 20]) (fr' := (32, [some (.ref 0), some (.int x1), some (.int x2), some (.int x3), some (.int x4)], [], 2, 12)) rfl (T_War_passDay (by omega) (by decide) hc ?_)
    show sm_W sm_sh X (sm_C sm_sh X sm_P D) me_146 Q (32, [some (.ref 0), some (.int x1), some (.int x2), some (.int x3), some (.int x4)], [.int r1], 2, 12) (I2, J, sm_rf 21 d)
    refine sm_W.run (sm_C_mono D) 3 (G := True) (fr' := (16, [some (.ref 0), some (.int x1), some (.int x2), some (.int x3), some (.int (x4 + (1 : Int32)))], [], 2, 12)) (M' := (I2, J, sm_rf 21 d)) rfl trivial ?_
    exact (hk16 _ _ _ _ _ h)
  · skip
    refine sm_W.run (sm_C_mono D) 4 (G := True) (fr' := (31, [some (.ref 0), some (.int x1), some (.int x2), some (.int x3), some (.int x4)], [.ref 20, .ref 41], 2, 12)) (M' := (I, J, sm_rf 41 d)) rfl trivial ?_
    obtain ⟨r1, I2, hc, h⟩ := sd_q2_go h
    refine sm_W.cal (sm_C_mono D) (y := 98) (as := [.ref 41, .ref 20]) (fr' := (32, [some (.ref 0), some (.int x1), some (.int x2), some (.int x3), some (.int x4)], [], 2, 12)) rfl (T_War_passDay (by omega) (by decide) hc ?_)
    show sm_W sm_sh X (sm_C sm_sh X sm_P D) me_146 Q (32, [some (.ref 0), some (.int x1), some (.int x2), some (.int x3), some (.int x4)], [.int r1], 2, 12) (I2, J, sm_rf 41 d)
    refine sm_W.run (sm_C_mono D) 3 (G := True) (fr' := (16, [some (.ref 0), some (.int x1), some (.int x2), some (.int x3), some (.int (x4 + (1 : Int32)))], [], 2, 12)) (M' := (I2, J, sm_rf 41 d)) rfl trivial ?_
    exact (hk16 _ _ _ _ _ h)
theorem G_VM_held_16B {X : Nat × (Nat → Int32)} {t d D : Nat} {Q : sm_Q} {I : sm_MI} {J : sm_MJ} {k16 : Int32 → Int32 → Int32 → Int32 → sm_MI → Option ((Int32 ⊕ Nat) × sm_MI)} {x1 : Int32} {x2 : Int32} {x3 : Int32} {x4 : Int32} {rz : (Int32 ⊕ Nat)} {Iz : sm_MI}
    (hD : 6 ≤ D) (ht : t = 21 ∨ t = 41) (h : F_VM_held_16B t k16 x1 x2 x3 x4 I = some (rz, Iz)) (hQ1 : ∀ v, rz = .inl v → Q (.inl (some (.int v))) (Iz, J, sm_rf t d)) (hQ2 : ∀ E, rz = .inr E → Q (.inr E) (Iz, J, sm_rf t d)) (hk16 : ∀ (x1 : Int32) (x2 : Int32) (x3 : Int32) (x4 : Int32) (I : sm_MI), k16 x1 x2 x3 x4 I = some (rz, Iz) → sm_W sm_sh X (sm_C sm_sh X sm_P D) me_146 Q (16, [some (.ref 0), some (.int x1), some (.int x2), some (.int x3), some (.int x4)], [], 2, 12) (I, J, sm_rf t d)) : sm_W sm_sh X (sm_C sm_sh X sm_P D) me_146 Q (16, [some (.ref 0), some (.int x1), some (.int x2), some (.int x3), some (.int x4)], [], 2, 12) (I, J, sm_rf t d) := by
  unfold F_VM_held_16B at h
  rcases ht with rfl | rfl
  · skip
    refine sm_W.run (sm_C_mono D) 3 (G := True) (fr' := (if decide (x2 ≤ x4) = true then 35 else 19, [some (.ref 0), some (.int x1), some (.int x2), some (.int x3), some (.int x4)], [], 2, 12)) (M' := (I, J, sm_rf 21 d)) rfl trivial (sm_W.iteD h (fun hc h => ?_) (fun hc h => ?_))
    · refine sm_W.run (sm_C_mono D) 1 (G := True) (fr' := (36, [some (.ref 0), some (.int x1), some (.int x2), some (.int x3), some (.int x4)], [.int x3], 2, 12)) (M' := (I, J, sm_rf 21 d)) rfl trivial ?_
      cases h
      exact sm_W.ret (sm_C_mono D) rfl (hQ1 _ rfl)
    · refine sm_W.run (sm_C_mono D) 5 (G := True) (fr' := (24, [some (.ref 0), some (.int x1), some (.int x2), some (.int x3), some (.int x4)], [.int x1, .ref 20, .ref 21], 2, 12)) (M' := (I, J, sm_rf 21 d)) rfl trivial ?_
      obtain ⟨r1, I2, hc, h⟩ := sd_q2_go h
      refine sm_W.cal (sm_C_mono D) (y := 93) (as := [.ref 21, .ref 20, .int x1]) (fr' := (25, [some (.ref 0), some (.int x1), some (.int x2), some (.int x3), some (.int x4)], [], 2, 12)) rfl (T_War_holdsFire (by omega) (by decide) hc ?_)
      show sm_W sm_sh X (sm_C sm_sh X sm_P D) me_146 Q (25, [some (.ref 0), some (.int x1), some (.int x2), some (.int x3), some (.int x4)], [.int r1], 2, 12) (I2, J, sm_rf 21 d)
      refine sm_W.run (sm_C_mono D) 1 (G := True) (fr' := (if decide (r1 = 0) = true then 27 else 26, [some (.ref 0), some (.int x1), some (.int x2), some (.int x3), some (.int x4)], [], 2, 12)) (M' := (I2, J, sm_rf 21 d)) rfl trivial (sm_W.iteD h (fun hc h => ?_) (fun hc h => ?_))
      · exact (G_VM_held_27 hD (by decide) h hQ1 hQ2 hk16)
      · refine sm_W.run (sm_C_mono D) 1 (G := True) (fr' := (27, [some (.ref 0), some (.int x1), some (.int x2), some (.int (x3 + (1 : Int32))), some (.int x4)], [], 2, 12)) (M' := (I2, J, sm_rf 21 d)) rfl trivial ?_
        exact (G_VM_held_27 hD (by decide) h hQ1 hQ2 hk16)
  · skip
    refine sm_W.run (sm_C_mono D) 3 (G := True) (fr' := (if decide (x2 ≤ x4) = true then 35 else 19, [some (.ref 0), some (.int x1), some (.int x2), some (.int x3), some (.int x4)], [], 2, 12)) (M' := (I, J, sm_rf 41 d)) rfl trivial (sm_W.iteD h (fun hc h => ?_) (fun hc h => ?_))
    · refine sm_W.run (sm_C_mono D) 1 (G := True) (fr' := (36, [some (.ref 0), some (.int x1), some (.int x2), some (.int x3), some (.int x4)], [.int x3], 2, 12)) (M' := (I, J, sm_rf 41 d)) rfl trivial ?_
      cases h
      exact sm_W.ret (sm_C_mono D) rfl (hQ1 _ rfl)
    · refine sm_W.run (sm_C_mono D) 5 (G := True) (fr' := (24, [some (.ref 0), some (.int x1), some (.int x2), some (.int x3), some (.int x4)], [.int x1, .ref 20, .ref 41], 2, 12)) (M' := (I, J, sm_rf 41 d)) rfl trivial ?_
      obtain ⟨r1, I2, hc, h⟩ := sd_q2_go h
      refine sm_W.cal (sm_C_mono D) (y := 93) (as := [.ref 41, .ref 20, .int x1]) (fr' := (25, [some (.ref 0), some (.int x1), some (.int x2), some (.int x3), some (.int x4)], [], 2, 12)) rfl (T_War_holdsFire (by omega) (by decide) hc ?_)
      show sm_W sm_sh X (sm_C sm_sh X sm_P D) me_146 Q (25, [some (.ref 0), some (.int x1), some (.int x2), some (.int x3), some (.int x4)], [.int r1], 2, 12) (I2, J, sm_rf 41 d)
      refine sm_W.run (sm_C_mono D) 1 (G := True) (fr' := (if decide (r1 = 0) = true then 27 else 26, [some (.ref 0), some (.int x1), some (.int x2), some (.int x3), some (.int x4)], [], 2, 12)) (M' := (I2, J, sm_rf 41 d)) rfl trivial (sm_W.iteD h (fun hc h => ?_) (fun hc h => ?_))
      · exact (G_VM_held_27 hD (by decide) h hQ1 hQ2 hk16)
      · refine sm_W.run (sm_C_mono D) 1 (G := True) (fr' := (27, [some (.ref 0), some (.int x1), some (.int x2), some (.int (x3 + (1 : Int32))), some (.int x4)], [], 2, 12)) (M' := (I2, J, sm_rf 41 d)) rfl trivial ?_
        exact (G_VM_held_27 hD (by decide) h hQ1 hQ2 hk16)
theorem G_VM_held_16 {X : Nat × (Nat → Int32)} {t d D : Nat} {Q : sm_Q} {J : sm_MJ} {rz : (Int32 ⊕ Nat)} {Iz : sm_MI}
    (hD : 6 ≤ D) (ht : t = 21 ∨ t = 41) (hQ1 : ∀ v, rz = .inl v → Q (.inl (some (.int v))) (Iz, J, sm_rf t d)) (hQ2 : ∀ E, rz = .inr E → Q (.inr E) (Iz, J, sm_rf t d))  : ∀ (n : Nat) (x1 : Int32) (x2 : Int32) (x3 : Int32) (x4 : Int32) (I : sm_MI), F_VM_held_16 t n x1 x2 x3 x4 I = some (rz, Iz) → sm_W sm_sh X (sm_C sm_sh X sm_P D) me_146 Q (16, [some (.ref 0), some (.int x1), some (.int x2), some (.int x3), some (.int x4)], [], 2, 12) (I, J, sm_rf t d) := by
  intro n
  induction n with
  | zero => intro x1 x2 x3 x4 I h; cases (show (none : Option ((Int32 ⊕ Nat) × sm_MI)) = some (rz, Iz) from h)
  | succ n ih => intro x1 x2 x3 x4 I h; exact G_VM_held_16B hD ht (show F_VM_held_16B t (F_VM_held_16 t n) x1 x2 x3 x4 I = some (rz, Iz) from h) hQ1 hQ2  ih
theorem G_VM_held {X : Nat × (Nat → Int32)} {t d D : Nat} {Q : sm_Q} {I : sm_MI} {J : sm_MJ} {x1 : Int32} {x2 : Int32} {rz : (Int32 ⊕ Nat)} {Iz : sm_MI}
    (hD : 6 ≤ D) (ht : t = 21 ∨ t = 41) (h : F_VM_held t x1 x2 I = some (rz, Iz)) (hQ1 : ∀ v, rz = .inl v → Q (.inl (some (.int v))) (Iz, J, sm_rf t d)) (hQ2 : ∀ E, rz = .inr E → Q (.inr E) (Iz, J, sm_rf t d))  : sm_W sm_sh X (sm_C sm_sh X sm_P D) me_146 Q (0, [some (.ref 0), some (.int x1), some (.int x2), none, none], [], 0, 0) (I, J, sm_rf t d) := by
  unfold F_VM_held at h
  rcases ht with rfl | rfl
  · skip
    refine sm_W.run (sm_C_mono D) 2 (G := True) (fr' := (2, [some (.ref 0), some (.int x1), some (.int x2), none, none], [.int x1, .ref 0], 0, 0)) (M' := (I, J, sm_rf 21 d)) rfl trivial ?_
    rcases sd_t1_go h with ⟨r1, hc, h⟩ | ⟨r1, hc, h⟩
    · refine sm_W.cal (sm_C_mono D) (y := 155) (as := [.ref 0, .int x1]) (fr' := (3, [some (.ref 0), some (.int x1), some (.int x2), none, none], [], 1, 6)) rfl (T_VM_checkWarring (by omega) hc (fun _ e => ?_) (fun _ e => by cases e))
      cases e
      show sm_W sm_sh X (sm_C sm_sh X sm_P D) me_146 Q (3, [some (.ref 0), some (.int x1), some (.int x2), none, none], [], 1, 6) (I, J, sm_rf 21 d)
      refine sm_W.run (sm_C_mono D) 2 (G := True) (fr' := (5, [some (.ref 0), some (.int x1), some (.int x2), none, none], [.int x2, .ref 0], 1, 6)) (M' := (I, J, sm_rf 21 d)) rfl trivial ?_
      rcases sd_t1_go h with ⟨r2, hc, h⟩ | ⟨r2, hc, h⟩
      · refine sm_W.cal (sm_C_mono D) (y := 156) (as := [.ref 0, .int x2]) (fr' := (6, [some (.ref 0), some (.int x1), some (.int x2), none, none], [], 2, 12)) rfl (T_VM_checkDays (by omega) hc (fun _ e => ?_) (fun _ e => by cases e))
        cases e
        show sm_W sm_sh X (sm_C sm_sh X sm_P D) me_146 Q (6, [some (.ref 0), some (.int x1), some (.int x2), none, none], [], 2, 12) (I, J, sm_rf 21 d)
        refine sm_W.run (sm_C_mono D) 5 (G := True) (fr' := (11, [some (.ref 0), some (.int x1), some (.int x2), none, none], [.ref 9, .ref 20], 2, 12)) (M' := (I, J, sm_rf 21 d)) rfl trivial ?_
        obtain ⟨I3, hc, h⟩ := sd_q1_go h
        refine sm_W.cal (sm_C_mono D) (y := 58) (as := [.ref 20, .ref 9]) (fr' := (12, [some (.ref 0), some (.int x1), some (.int x2), none, none], [], 2, 12)) rfl (T_State_copyFrom (by omega) (by decide) hc ?_)
        show sm_W sm_sh X (sm_C sm_sh X sm_P D) me_146 Q (12, [some (.ref 0), some (.int x1), some (.int x2), none, none], [], 2, 12) (I3, J, sm_rf 21 d)
        refine sm_W.run (sm_C_mono D) 4 (G := True) (fr' := (16, [some (.ref 0), some (.int x1), some (.int x2), some (.int (0 : Int32)), some (.int (0 : Int32))], [], 2, 12)) (M' := (I3, J, sm_rf 21 d)) rfl trivial ?_
        exact (G_VM_held_16 hD (by decide) hQ1 hQ2 sd_fu _ _ _ _ _ h)
      · refine sm_W.cal (sm_C_mono D) (y := 156) (as := [.ref 0, .int x2]) (fr' := (6, [some (.ref 0), some (.int x1), some (.int x2), none, none], [], 2, 12)) rfl (T_VM_checkDays (by omega) hc (fun _ e => by cases e) (fun _ e => ?_))
        cases e
        cases h
        exact ⟨rfl, hQ2 _ rfl⟩
    · refine sm_W.cal (sm_C_mono D) (y := 155) (as := [.ref 0, .int x1]) (fr' := (3, [some (.ref 0), some (.int x1), some (.int x2), none, none], [], 1, 6)) rfl (T_VM_checkWarring (by omega) hc (fun _ e => by cases e) (fun _ e => ?_))
      cases e
      cases h
      exact ⟨rfl, hQ2 _ rfl⟩
  · skip
    refine sm_W.run (sm_C_mono D) 2 (G := True) (fr' := (2, [some (.ref 0), some (.int x1), some (.int x2), none, none], [.int x1, .ref 0], 0, 0)) (M' := (I, J, sm_rf 41 d)) rfl trivial ?_
    rcases sd_t1_go h with ⟨r1, hc, h⟩ | ⟨r1, hc, h⟩
    · refine sm_W.cal (sm_C_mono D) (y := 155) (as := [.ref 0, .int x1]) (fr' := (3, [some (.ref 0), some (.int x1), some (.int x2), none, none], [], 1, 6)) rfl (T_VM_checkWarring (by omega) hc (fun _ e => ?_) (fun _ e => by cases e))
      cases e
      show sm_W sm_sh X (sm_C sm_sh X sm_P D) me_146 Q (3, [some (.ref 0), some (.int x1), some (.int x2), none, none], [], 1, 6) (I, J, sm_rf 41 d)
      refine sm_W.run (sm_C_mono D) 2 (G := True) (fr' := (5, [some (.ref 0), some (.int x1), some (.int x2), none, none], [.int x2, .ref 0], 1, 6)) (M' := (I, J, sm_rf 41 d)) rfl trivial ?_
      rcases sd_t1_go h with ⟨r2, hc, h⟩ | ⟨r2, hc, h⟩
      · refine sm_W.cal (sm_C_mono D) (y := 156) (as := [.ref 0, .int x2]) (fr' := (6, [some (.ref 0), some (.int x1), some (.int x2), none, none], [], 2, 12)) rfl (T_VM_checkDays (by omega) hc (fun _ e => ?_) (fun _ e => by cases e))
        cases e
        show sm_W sm_sh X (sm_C sm_sh X sm_P D) me_146 Q (6, [some (.ref 0), some (.int x1), some (.int x2), none, none], [], 2, 12) (I, J, sm_rf 41 d)
        refine sm_W.run (sm_C_mono D) 5 (G := True) (fr' := (11, [some (.ref 0), some (.int x1), some (.int x2), none, none], [.ref 9, .ref 20], 2, 12)) (M' := (I, J, sm_rf 41 d)) rfl trivial ?_
        obtain ⟨I3, hc, h⟩ := sd_q1_go h
        refine sm_W.cal (sm_C_mono D) (y := 58) (as := [.ref 20, .ref 9]) (fr' := (12, [some (.ref 0), some (.int x1), some (.int x2), none, none], [], 2, 12)) rfl (T_State_copyFrom (by omega) (by decide) hc ?_)
        show sm_W sm_sh X (sm_C sm_sh X sm_P D) me_146 Q (12, [some (.ref 0), some (.int x1), some (.int x2), none, none], [], 2, 12) (I3, J, sm_rf 41 d)
        refine sm_W.run (sm_C_mono D) 4 (G := True) (fr' := (16, [some (.ref 0), some (.int x1), some (.int x2), some (.int (0 : Int32)), some (.int (0 : Int32))], [], 2, 12)) (M' := (I3, J, sm_rf 41 d)) rfl trivial ?_
        exact (G_VM_held_16 hD (by decide) hQ1 hQ2 sd_fu _ _ _ _ _ h)
      · refine sm_W.cal (sm_C_mono D) (y := 156) (as := [.ref 0, .int x2]) (fr' := (6, [some (.ref 0), some (.int x1), some (.int x2), none, none], [], 2, 12)) rfl (T_VM_checkDays (by omega) hc (fun _ e => by cases e) (fun _ e => ?_))
        cases e
        cases h
        exact ⟨rfl, hQ2 _ rfl⟩
    · refine sm_W.cal (sm_C_mono D) (y := 155) (as := [.ref 0, .int x1]) (fr' := (3, [some (.ref 0), some (.int x1), some (.int x2), none, none], [], 1, 6)) rfl (T_VM_checkWarring (by omega) hc (fun _ e => by cases e) (fun _ e => ?_))
      cases e
      cases h
      exact ⟨rfl, hQ2 _ rfl⟩
theorem T_VM_held {X : Nat × (Nat → Int32)} {t d D : Nat} {Q : sm_Q} {I : sm_MI} {J : sm_MJ} {x1 : Int32} {x2 : Int32} {rz : (Int32 ⊕ Nat)} {Iz : sm_MI}
    (hD : 7 ≤ D) (ht : t = 21 ∨ t = 41) (h : F_VM_held t x1 x2 I = some (rz, Iz)) (hQ1 : ∀ v, rz = .inl v → Q (.inl (some (.int v))) (Iz, J, sm_rf t d)) (hQ2 : ∀ E, rz = .inr E → Q (.inr E) (Iz, J, sm_rf t d)) : sm_C sm_sh X sm_P D 146 [.ref 0, .int x1, .int x2] (I, J, sm_rf t d) Q := by
  cases D with
  | zero => omega
  | succ D => exact sm_C.of (me := me_146) (L := [some (.ref 0), some (.int x1), some (.int x2), none, none]) rfl rfl rfl (sm_W.forget (L' := [some (.ref 0), some (.int x1), some (.int x2), none, none]) ⟨rfl, ⟨rfl, ⟨rfl, trivial⟩⟩⟩ (G_VM_held (by omega) ht h hQ1 hQ2))
-- 147 VM_lost
noncomputable def F_VM_lost_11B (t : Nat) (k11 : Int32 → Int32 → sm_MI → Option ((Int32 ⊕ Nat) × sm_MI)) (x1 : Int32) (x2 : Int32) (I : sm_MI) : Option ((Int32 ⊕ Nat) × sm_MI) :=
  if (99 : Int32) ≤ x2 then
    some (.inl (-1 : Int32), I)
  else
    sd_q1 (F_Valley_canBeSung t x1 (I 20 0) I) fun r1 =>
    if ¬ r1 = 0 then
      sd_q2 (F_War_passDay t 20 I) fun r2 I3 =>
      k11 x1 (x2 + (1 : Int32)) I3
    else
      some (.inl (I 20 3), I)
noncomputable def F_VM_lost_11 (t : Nat) (n : Nat) : Int32 → Int32 → sm_MI → Option ((Int32 ⊕ Nat) × sm_MI) :=
  sd_fix (fun k x1 x2 I => F_VM_lost_11B t k x1 x2 I) (fun _ _ _ => none) n
noncomputable def F_VM_lost (t : Nat) (x1 : Int32) (I : sm_MI) : Option ((Int32 ⊕ Nat) × sm_MI) :=
  sd_t1 (F_VM_checkPiece t x1 I) (fun r1 =>
    sd_q1 (F_State_copyFrom 20 9 I) fun I2 =>
    F_VM_lost_11 t sd_fu x1 (0 : Int32) I2)
    (fun r1 => some (.inr r1, I))
theorem G_VM_lost_11B {X : Nat × (Nat → Int32)} {t d D : Nat} {Q : sm_Q} {I : sm_MI} {J : sm_MJ} {k11 : Int32 → Int32 → sm_MI → Option ((Int32 ⊕ Nat) × sm_MI)} {x1 : Int32} {x2 : Int32} {rz : (Int32 ⊕ Nat)} {Iz : sm_MI}
    (hD : 6 ≤ D) (ht : t = 21 ∨ t = 41) (h : F_VM_lost_11B t k11 x1 x2 I = some (rz, Iz)) (hQ1 : ∀ v, rz = .inl v → Q (.inl (some (.int v))) (Iz, J, sm_rf t d)) (hQ2 : ∀ E, rz = .inr E → Q (.inr E) (Iz, J, sm_rf t d)) (hk11 : ∀ (x1 : Int32) (x2 : Int32) (I : sm_MI), k11 x1 x2 I = some (rz, Iz) → sm_W sm_sh X (sm_C sm_sh X sm_P D) me_147 Q (11, [some (.ref 0), some (.int x1), some (.int x2)], [], 1, 6) (I, J, sm_rf t d)) : sm_W sm_sh X (sm_C sm_sh X sm_P D) me_147 Q (11, [some (.ref 0), some (.int x1), some (.int x2)], [], 1, 6) (I, J, sm_rf t d) := by
  unfold F_VM_lost_11B at h
  rcases ht with rfl | rfl
  · skip
    refine sm_W.run (sm_C_mono D) 3 (G := True) (fr' := (if decide ((99 : Int32) ≤ x2) = true then 34 else 14, [some (.ref 0), some (.int x1), some (.int x2)], [], 1, 6)) (M' := (I, J, sm_rf 21 d)) rfl trivial (sm_W.iteD h (fun hc h => ?_) (fun hc h => ?_))
    · refine sm_W.run (sm_C_mono D) 1 (G := True) (fr' := (35, [some (.ref 0), some (.int x1), some (.int x2)], [.int (-1 : Int32)], 1, 6)) (M' := (I, J, sm_rf 21 d)) rfl trivial ?_
      cases h
      exact sm_W.ret (sm_C_mono D) rfl (hQ1 _ rfl)
    · refine sm_W.run (sm_C_mono D) 6 (G := True) (fr' := (20, [some (.ref 0), some (.int x1), some (.int x2)], [.int (I 20 0), .int x1, .ref 21], 1, 6)) (M' := (I, J, sm_rf 21 d)) rfl trivial ?_
      obtain ⟨r1, hc, h⟩ := sd_q1_go h
      refine sm_W.cal (sm_C_mono D) (y := 88) (as := [.ref 21, .int x1, .int (I 20 0)]) (fr' := (21, [some (.ref 0), some (.int x1), some (.int x2)], [], 1, 6)) rfl (T_Valley_canBeSung (by omega) (by decide) hc ?_)
      show sm_W sm_sh X (sm_C sm_sh X sm_P D) me_147 Q (21, [some (.ref 0), some (.int x1), some (.int x2)], [.int r1], 1, 6) (I, J, sm_rf 21 d)
      refine sm_W.run (sm_C_mono D) 1 (G := True) (fr' := (if decide (¬ r1 = 0) = true then 26 else 22, [some (.ref 0), some (.int x1), some (.int x2)], [], 1, 6)) (M' := (I, J, sm_rf 21 d)) rfl trivial (sm_W.iteD h (fun hc h => ?_) (fun hc h => ?_))
      · refine sm_W.run (sm_C_mono D) 4 (G := True) (fr' := (30, [some (.ref 0), some (.int x1), some (.int x2)], [.ref 20, .ref 21], 1, 6)) (M' := (I, J, sm_rf 21 d)) rfl trivial ?_
        obtain ⟨r2, I3, hc, h⟩ := sd_q2_go h
        refine sm_W.cal (sm_C_mono D) (y := 98) (as := [.ref 21, .ref 20]) (fr' := (31, [some (.ref 0), some (.int x1), some (.int x2)], [], 1, 6)) rfl (T_War_passDay (by omega) (by decide) hc ?_)
        show sm_W sm_sh X (sm_C sm_sh X sm_P D) me_147 Q (31, [some (.ref 0), some (.int x1), some (.int x2)], [.int r2], 1, 6) (I3, J, sm_rf 21 d)
        refine sm_W.run (sm_C_mono D) 3 (G := True) (fr' := (11, [some (.ref 0), some (.int x1), some (.int (x2 + (1 : Int32)))], [], 1, 6)) (M' := (I3, J, sm_rf 21 d)) rfl trivial ?_
        exact (hk11 _ _ _ h)
      · refine sm_W.run (sm_C_mono D) 3 (G := True) (fr' := (25, [some (.ref 0), some (.int x1), some (.int x2)], [.int (I 20 3)], 1, 6)) (M' := (I, J, sm_rf 21 d)) rfl trivial ?_
        cases h
        exact sm_W.ret (sm_C_mono D) rfl (hQ1 _ rfl)
  · skip
    refine sm_W.run (sm_C_mono D) 3 (G := True) (fr' := (if decide ((99 : Int32) ≤ x2) = true then 34 else 14, [some (.ref 0), some (.int x1), some (.int x2)], [], 1, 6)) (M' := (I, J, sm_rf 41 d)) rfl trivial (sm_W.iteD h (fun hc h => ?_) (fun hc h => ?_))
    · refine sm_W.run (sm_C_mono D) 1 (G := True) (fr' := (35, [some (.ref 0), some (.int x1), some (.int x2)], [.int (-1 : Int32)], 1, 6)) (M' := (I, J, sm_rf 41 d)) rfl trivial ?_
      cases h
      exact sm_W.ret (sm_C_mono D) rfl (hQ1 _ rfl)
    · refine sm_W.run (sm_C_mono D) 6 (G := True) (fr' := (20, [some (.ref 0), some (.int x1), some (.int x2)], [.int (I 20 0), .int x1, .ref 41], 1, 6)) (M' := (I, J, sm_rf 41 d)) rfl trivial ?_
      obtain ⟨r1, hc, h⟩ := sd_q1_go h
      refine sm_W.cal (sm_C_mono D) (y := 88) (as := [.ref 41, .int x1, .int (I 20 0)]) (fr' := (21, [some (.ref 0), some (.int x1), some (.int x2)], [], 1, 6)) rfl (T_Valley_canBeSung (by omega) (by decide) hc ?_)
      show sm_W sm_sh X (sm_C sm_sh X sm_P D) me_147 Q (21, [some (.ref 0), some (.int x1), some (.int x2)], [.int r1], 1, 6) (I, J, sm_rf 41 d)
      refine sm_W.run (sm_C_mono D) 1 (G := True) (fr' := (if decide (¬ r1 = 0) = true then 26 else 22, [some (.ref 0), some (.int x1), some (.int x2)], [], 1, 6)) (M' := (I, J, sm_rf 41 d)) rfl trivial (sm_W.iteD h (fun hc h => ?_) (fun hc h => ?_))
      · refine sm_W.run (sm_C_mono D) 4 (G := True) (fr' := (30, [some (.ref 0), some (.int x1), some (.int x2)], [.ref 20, .ref 41], 1, 6)) (M' := (I, J, sm_rf 41 d)) rfl trivial ?_
        obtain ⟨r2, I3, hc, h⟩ := sd_q2_go h
        refine sm_W.cal (sm_C_mono D) (y := 98) (as := [.ref 41, .ref 20]) (fr' := (31, [some (.ref 0), some (.int x1), some (.int x2)], [], 1, 6)) rfl (T_War_passDay (by omega) (by decide) hc ?_)
        show sm_W sm_sh X (sm_C sm_sh X sm_P D) me_147 Q (31, [some (.ref 0), some (.int x1), some (.int x2)], [.int r2], 1, 6) (I3, J, sm_rf 41 d)
        refine sm_W.run (sm_C_mono D) 3 (G := True) (fr' := (11, [some (.ref 0), some (.int x1), some (.int (x2 + (1 : Int32)))], [], 1, 6)) (M' := (I3, J, sm_rf 41 d)) rfl trivial ?_
        exact (hk11 _ _ _ h)
      · refine sm_W.run (sm_C_mono D) 3 (G := True) (fr' := (25, [some (.ref 0), some (.int x1), some (.int x2)], [.int (I 20 3)], 1, 6)) (M' := (I, J, sm_rf 41 d)) rfl trivial ?_
        cases h
        exact sm_W.ret (sm_C_mono D) rfl (hQ1 _ rfl)
theorem G_VM_lost_11 {X : Nat × (Nat → Int32)} {t d D : Nat} {Q : sm_Q} {J : sm_MJ} {rz : (Int32 ⊕ Nat)} {Iz : sm_MI}
    (hD : 6 ≤ D) (ht : t = 21 ∨ t = 41) (hQ1 : ∀ v, rz = .inl v → Q (.inl (some (.int v))) (Iz, J, sm_rf t d)) (hQ2 : ∀ E, rz = .inr E → Q (.inr E) (Iz, J, sm_rf t d))  : ∀ (n : Nat) (x1 : Int32) (x2 : Int32) (I : sm_MI), F_VM_lost_11 t n x1 x2 I = some (rz, Iz) → sm_W sm_sh X (sm_C sm_sh X sm_P D) me_147 Q (11, [some (.ref 0), some (.int x1), some (.int x2)], [], 1, 6) (I, J, sm_rf t d) := by
  intro n
  induction n with
  | zero => intro x1 x2 I h; cases (show (none : Option ((Int32 ⊕ Nat) × sm_MI)) = some (rz, Iz) from h)
  | succ n ih => intro x1 x2 I h; exact G_VM_lost_11B hD ht (show F_VM_lost_11B t (F_VM_lost_11 t n) x1 x2 I = some (rz, Iz) from h) hQ1 hQ2  ih
theorem G_VM_lost {X : Nat × (Nat → Int32)} {t d D : Nat} {Q : sm_Q} {I : sm_MI} {J : sm_MJ} {x1 : Int32} {rz : (Int32 ⊕ Nat)} {Iz : sm_MI}
    (hD : 6 ≤ D) (ht : t = 21 ∨ t = 41) (h : F_VM_lost t x1 I = some (rz, Iz)) (hQ1 : ∀ v, rz = .inl v → Q (.inl (some (.int v))) (Iz, J, sm_rf t d)) (hQ2 : ∀ E, rz = .inr E → Q (.inr E) (Iz, J, sm_rf t d))  : sm_W sm_sh X (sm_C sm_sh X sm_P D) me_147 Q (0, [some (.ref 0), some (.int x1), none], [], 0, 0) (I, J, sm_rf t d) := by
  unfold F_VM_lost at h
  rcases ht with rfl | rfl
  · skip
    refine sm_W.run (sm_C_mono D) 2 (G := True) (fr' := (2, [some (.ref 0), some (.int x1), none], [.int x1, .ref 0], 0, 0)) (M' := (I, J, sm_rf 21 d)) rfl trivial ?_
    rcases sd_t1_go h with ⟨r1, hc, h⟩ | ⟨r1, hc, h⟩
    · refine sm_W.cal (sm_C_mono D) (y := 152) (as := [.ref 0, .int x1]) (fr' := (3, [some (.ref 0), some (.int x1), none], [], 1, 6)) rfl (T_VM_checkPiece (by omega) (by decide) hc (fun _ e => ?_) (fun _ e => by cases e))
      cases e
      show sm_W sm_sh X (sm_C sm_sh X sm_P D) me_147 Q (3, [some (.ref 0), some (.int x1), none], [], 1, 6) (I, J, sm_rf 21 d)
      refine sm_W.run (sm_C_mono D) 5 (G := True) (fr' := (8, [some (.ref 0), some (.int x1), none], [.ref 9, .ref 20], 1, 6)) (M' := (I, J, sm_rf 21 d)) rfl trivial ?_
      obtain ⟨I2, hc, h⟩ := sd_q1_go h
      refine sm_W.cal (sm_C_mono D) (y := 58) (as := [.ref 20, .ref 9]) (fr' := (9, [some (.ref 0), some (.int x1), none], [], 1, 6)) rfl (T_State_copyFrom (by omega) (by decide) hc ?_)
      show sm_W sm_sh X (sm_C sm_sh X sm_P D) me_147 Q (9, [some (.ref 0), some (.int x1), none], [], 1, 6) (I2, J, sm_rf 21 d)
      refine sm_W.run (sm_C_mono D) 2 (G := True) (fr' := (11, [some (.ref 0), some (.int x1), some (.int (0 : Int32))], [], 1, 6)) (M' := (I2, J, sm_rf 21 d)) rfl trivial ?_
      exact (G_VM_lost_11 hD (by decide) hQ1 hQ2 sd_fu _ _ _ h)
    · refine sm_W.cal (sm_C_mono D) (y := 152) (as := [.ref 0, .int x1]) (fr' := (3, [some (.ref 0), some (.int x1), none], [], 1, 6)) rfl (T_VM_checkPiece (by omega) (by decide) hc (fun _ e => by cases e) (fun _ e => ?_))
      cases e
      cases h
      exact ⟨rfl, hQ2 _ rfl⟩
  · skip
    refine sm_W.run (sm_C_mono D) 2 (G := True) (fr' := (2, [some (.ref 0), some (.int x1), none], [.int x1, .ref 0], 0, 0)) (M' := (I, J, sm_rf 41 d)) rfl trivial ?_
    rcases sd_t1_go h with ⟨r1, hc, h⟩ | ⟨r1, hc, h⟩
    · refine sm_W.cal (sm_C_mono D) (y := 152) (as := [.ref 0, .int x1]) (fr' := (3, [some (.ref 0), some (.int x1), none], [], 1, 6)) rfl (T_VM_checkPiece (by omega) (by decide) hc (fun _ e => ?_) (fun _ e => by cases e))
      cases e
      show sm_W sm_sh X (sm_C sm_sh X sm_P D) me_147 Q (3, [some (.ref 0), some (.int x1), none], [], 1, 6) (I, J, sm_rf 41 d)
      refine sm_W.run (sm_C_mono D) 5 (G := True) (fr' := (8, [some (.ref 0), some (.int x1), none], [.ref 9, .ref 20], 1, 6)) (M' := (I, J, sm_rf 41 d)) rfl trivial ?_
      obtain ⟨I2, hc, h⟩ := sd_q1_go h
      refine sm_W.cal (sm_C_mono D) (y := 58) (as := [.ref 20, .ref 9]) (fr' := (9, [some (.ref 0), some (.int x1), none], [], 1, 6)) rfl (T_State_copyFrom (by omega) (by decide) hc ?_)
      show sm_W sm_sh X (sm_C sm_sh X sm_P D) me_147 Q (9, [some (.ref 0), some (.int x1), none], [], 1, 6) (I2, J, sm_rf 41 d)
      refine sm_W.run (sm_C_mono D) 2 (G := True) (fr' := (11, [some (.ref 0), some (.int x1), some (.int (0 : Int32))], [], 1, 6)) (M' := (I2, J, sm_rf 41 d)) rfl trivial ?_
      exact (G_VM_lost_11 hD (by decide) hQ1 hQ2 sd_fu _ _ _ h)
    · refine sm_W.cal (sm_C_mono D) (y := 152) (as := [.ref 0, .int x1]) (fr' := (3, [some (.ref 0), some (.int x1), none], [], 1, 6)) rfl (T_VM_checkPiece (by omega) (by decide) hc (fun _ e => by cases e) (fun _ e => ?_))
      cases e
      cases h
      exact ⟨rfl, hQ2 _ rfl⟩
theorem T_VM_lost {X : Nat × (Nat → Int32)} {t d D : Nat} {Q : sm_Q} {I : sm_MI} {J : sm_MJ} {x1 : Int32} {rz : (Int32 ⊕ Nat)} {Iz : sm_MI}
    (hD : 7 ≤ D) (ht : t = 21 ∨ t = 41) (h : F_VM_lost t x1 I = some (rz, Iz)) (hQ1 : ∀ v, rz = .inl v → Q (.inl (some (.int v))) (Iz, J, sm_rf t d)) (hQ2 : ∀ E, rz = .inr E → Q (.inr E) (Iz, J, sm_rf t d)) : sm_C sm_sh X sm_P D 147 [.ref 0, .int x1] (I, J, sm_rf t d) Q := by
  cases D with
  | zero => omega
  | succ D => exact sm_C.of (me := me_147) (L := [some (.ref 0), some (.int x1), none]) rfl rfl rfl (sm_W.forget (L' := [some (.ref 0), some (.int x1), none]) ⟨rfl, ⟨rfl, trivial⟩⟩ (G_VM_lost (by omega) ht h hQ1 hQ2))
-- 148 VM_gone
noncomputable def F_VM_gone_18B (t : Nat) (k18 : Int32 → Int32 → sm_MI → Option ((Int32 ⊕ Nat) × sm_MI)) (x1 : Int32) (x2 : Int32) (I : sm_MI) : Option ((Int32 ⊕ Nat) × sm_MI) :=
  if (99 : Int32) ≤ x2 then
    some (.inl (-1 : Int32), I)
  else
    sd_q1 (F_Valley_ofSide t x1 I) fun r1 =>
    if ¬ (r1 &&& (I 20 0)) = 0 then
      sd_q2 (F_War_passDay t 20 I) fun r2 I3 =>
      k18 x1 (x2 + (1 : Int32)) I3
    else
      some (.inl (I 20 3), I)
noncomputable def F_VM_gone_18 (t : Nat) (n : Nat) : Int32 → Int32 → sm_MI → Option ((Int32 ⊕ Nat) × sm_MI) :=
  sd_fix (fun k x1 x2 I => F_VM_gone_18B t k x1 x2 I) (fun _ _ _ => none) n
noncomputable def F_VM_gone (t : Nat) (x1 : Int32) (I : sm_MI) : Option ((Int32 ⊕ Nat) × sm_MI) :=
  if x1 < 0 then
    some (.inr 1, I)
  else
    if x1 < (3 : Int32) then
      sd_q1 (F_State_copyFrom 20 9 I) fun I1 =>
      F_VM_gone_18 t sd_fu x1 (0 : Int32) I1
    else
      some (.inr 1, I)
theorem G_VM_gone_18B {X : Nat × (Nat → Int32)} {t d D : Nat} {Q : sm_Q} {I : sm_MI} {J : sm_MJ} {k18 : Int32 → Int32 → sm_MI → Option ((Int32 ⊕ Nat) × sm_MI)} {x1 : Int32} {x2 : Int32} {rz : (Int32 ⊕ Nat)} {Iz : sm_MI}
    (hD : 6 ≤ D) (ht : t = 21 ∨ t = 41) (h : F_VM_gone_18B t k18 x1 x2 I = some (rz, Iz)) (hQ1 : ∀ v, rz = .inl v → Q (.inl (some (.int v))) (Iz, J, sm_rf t d)) (hQ2 : ∀ E, rz = .inr E → Q (.inr E) (Iz, J, sm_rf t d)) (hk18 : ∀ (x1 : Int32) (x2 : Int32) (I : sm_MI), k18 x1 x2 I = some (rz, Iz) → sm_W sm_sh X (sm_C sm_sh X sm_P D) me_148 Q (18, [some (.ref 0), some (.int x1), some (.int x2)], [], 0, 0) (I, J, sm_rf t d)) : sm_W sm_sh X (sm_C sm_sh X sm_P D) me_148 Q (18, [some (.ref 0), some (.int x1), some (.int x2)], [], 0, 0) (I, J, sm_rf t d) := by
  unfold F_VM_gone_18B at h
  rcases ht with rfl | rfl
  · skip
    refine sm_W.run (sm_C_mono D) 3 (G := True) (fr' := (if decide ((99 : Int32) ≤ x2) = true then 42 else 21, [some (.ref 0), some (.int x1), some (.int x2)], [], 0, 0)) (M' := (I, J, sm_rf 21 d)) rfl trivial (sm_W.iteD h (fun hc h => ?_) (fun hc h => ?_))
    · refine sm_W.run (sm_C_mono D) 1 (G := True) (fr' := (43, [some (.ref 0), some (.int x1), some (.int x2)], [.int (-1 : Int32)], 0, 0)) (M' := (I, J, sm_rf 21 d)) rfl trivial ?_
      cases h
      exact sm_W.ret (sm_C_mono D) rfl (hQ1 _ rfl)
    · refine sm_W.run (sm_C_mono D) 3 (G := True) (fr' := (24, [some (.ref 0), some (.int x1), some (.int x2)], [.int x1, .ref 21], 0, 0)) (M' := (I, J, sm_rf 21 d)) rfl trivial ?_
      obtain ⟨r1, hc, h⟩ := sd_q1_go h
      refine sm_W.cal (sm_C_mono D) (y := 83) (as := [.ref 21, .int x1]) (fr' := (25, [some (.ref 0), some (.int x1), some (.int x2)], [], 0, 0)) rfl (T_Valley_ofSide (by omega) (by decide) hc ?_)
      show sm_W sm_sh X (sm_C sm_sh X sm_P D) me_148 Q (25, [some (.ref 0), some (.int x1), some (.int x2)], [.int r1], 0, 0) (I, J, sm_rf 21 d)
      refine sm_W.run (sm_C_mono D) 5 (G := True) (fr' := (if decide (¬ (r1 &&& (I 20 0)) = 0) = true then 34 else 30, [some (.ref 0), some (.int x1), some (.int x2)], [], 0, 0)) (M' := (I, J, sm_rf 21 d)) rfl trivial (sm_W.iteD h (fun hc h => ?_) (fun hc h => ?_))
      · refine sm_W.run (sm_C_mono D) 4 (G := True) (fr' := (38, [some (.ref 0), some (.int x1), some (.int x2)], [.ref 20, .ref 21], 0, 0)) (M' := (I, J, sm_rf 21 d)) rfl trivial ?_
        obtain ⟨r2, I3, hc, h⟩ := sd_q2_go h
        refine sm_W.cal (sm_C_mono D) (y := 98) (as := [.ref 21, .ref 20]) (fr' := (39, [some (.ref 0), some (.int x1), some (.int x2)], [], 0, 0)) rfl (T_War_passDay (by omega) (by decide) hc ?_)
        show sm_W sm_sh X (sm_C sm_sh X sm_P D) me_148 Q (39, [some (.ref 0), some (.int x1), some (.int x2)], [.int r2], 0, 0) (I3, J, sm_rf 21 d)
        refine sm_W.run (sm_C_mono D) 3 (G := True) (fr' := (18, [some (.ref 0), some (.int x1), some (.int (x2 + (1 : Int32)))], [], 0, 0)) (M' := (I3, J, sm_rf 21 d)) rfl trivial ?_
        exact (hk18 _ _ _ h)
      · refine sm_W.run (sm_C_mono D) 3 (G := True) (fr' := (33, [some (.ref 0), some (.int x1), some (.int x2)], [.int (I 20 3)], 0, 0)) (M' := (I, J, sm_rf 21 d)) rfl trivial ?_
        cases h
        exact sm_W.ret (sm_C_mono D) rfl (hQ1 _ rfl)
  · skip
    refine sm_W.run (sm_C_mono D) 3 (G := True) (fr' := (if decide ((99 : Int32) ≤ x2) = true then 42 else 21, [some (.ref 0), some (.int x1), some (.int x2)], [], 0, 0)) (M' := (I, J, sm_rf 41 d)) rfl trivial (sm_W.iteD h (fun hc h => ?_) (fun hc h => ?_))
    · refine sm_W.run (sm_C_mono D) 1 (G := True) (fr' := (43, [some (.ref 0), some (.int x1), some (.int x2)], [.int (-1 : Int32)], 0, 0)) (M' := (I, J, sm_rf 41 d)) rfl trivial ?_
      cases h
      exact sm_W.ret (sm_C_mono D) rfl (hQ1 _ rfl)
    · refine sm_W.run (sm_C_mono D) 3 (G := True) (fr' := (24, [some (.ref 0), some (.int x1), some (.int x2)], [.int x1, .ref 41], 0, 0)) (M' := (I, J, sm_rf 41 d)) rfl trivial ?_
      obtain ⟨r1, hc, h⟩ := sd_q1_go h
      refine sm_W.cal (sm_C_mono D) (y := 83) (as := [.ref 41, .int x1]) (fr' := (25, [some (.ref 0), some (.int x1), some (.int x2)], [], 0, 0)) rfl (T_Valley_ofSide (by omega) (by decide) hc ?_)
      show sm_W sm_sh X (sm_C sm_sh X sm_P D) me_148 Q (25, [some (.ref 0), some (.int x1), some (.int x2)], [.int r1], 0, 0) (I, J, sm_rf 41 d)
      refine sm_W.run (sm_C_mono D) 5 (G := True) (fr' := (if decide (¬ (r1 &&& (I 20 0)) = 0) = true then 34 else 30, [some (.ref 0), some (.int x1), some (.int x2)], [], 0, 0)) (M' := (I, J, sm_rf 41 d)) rfl trivial (sm_W.iteD h (fun hc h => ?_) (fun hc h => ?_))
      · refine sm_W.run (sm_C_mono D) 4 (G := True) (fr' := (38, [some (.ref 0), some (.int x1), some (.int x2)], [.ref 20, .ref 41], 0, 0)) (M' := (I, J, sm_rf 41 d)) rfl trivial ?_
        obtain ⟨r2, I3, hc, h⟩ := sd_q2_go h
        refine sm_W.cal (sm_C_mono D) (y := 98) (as := [.ref 41, .ref 20]) (fr' := (39, [some (.ref 0), some (.int x1), some (.int x2)], [], 0, 0)) rfl (T_War_passDay (by omega) (by decide) hc ?_)
        show sm_W sm_sh X (sm_C sm_sh X sm_P D) me_148 Q (39, [some (.ref 0), some (.int x1), some (.int x2)], [.int r2], 0, 0) (I3, J, sm_rf 41 d)
        refine sm_W.run (sm_C_mono D) 3 (G := True) (fr' := (18, [some (.ref 0), some (.int x1), some (.int (x2 + (1 : Int32)))], [], 0, 0)) (M' := (I3, J, sm_rf 41 d)) rfl trivial ?_
        exact (hk18 _ _ _ h)
      · refine sm_W.run (sm_C_mono D) 3 (G := True) (fr' := (33, [some (.ref 0), some (.int x1), some (.int x2)], [.int (I 20 3)], 0, 0)) (M' := (I, J, sm_rf 41 d)) rfl trivial ?_
        cases h
        exact sm_W.ret (sm_C_mono D) rfl (hQ1 _ rfl)
theorem G_VM_gone_18 {X : Nat × (Nat → Int32)} {t d D : Nat} {Q : sm_Q} {J : sm_MJ} {rz : (Int32 ⊕ Nat)} {Iz : sm_MI}
    (hD : 6 ≤ D) (ht : t = 21 ∨ t = 41) (hQ1 : ∀ v, rz = .inl v → Q (.inl (some (.int v))) (Iz, J, sm_rf t d)) (hQ2 : ∀ E, rz = .inr E → Q (.inr E) (Iz, J, sm_rf t d))  : ∀ (n : Nat) (x1 : Int32) (x2 : Int32) (I : sm_MI), F_VM_gone_18 t n x1 x2 I = some (rz, Iz) → sm_W sm_sh X (sm_C sm_sh X sm_P D) me_148 Q (18, [some (.ref 0), some (.int x1), some (.int x2)], [], 0, 0) (I, J, sm_rf t d) := by
  intro n
  induction n with
  | zero => intro x1 x2 I h; cases (show (none : Option ((Int32 ⊕ Nat) × sm_MI)) = some (rz, Iz) from h)
  | succ n ih => intro x1 x2 I h; exact G_VM_gone_18B hD ht (show F_VM_gone_18B t (F_VM_gone_18 t n) x1 x2 I = some (rz, Iz) from h) hQ1 hQ2  ih
theorem G_VM_gone {X : Nat × (Nat → Int32)} {t d D : Nat} {Q : sm_Q} {I : sm_MI} {J : sm_MJ} {x1 : Int32} {rz : (Int32 ⊕ Nat)} {Iz : sm_MI}
    (hD : 6 ≤ D) (ht : t = 21 ∨ t = 41) (h : F_VM_gone t x1 I = some (rz, Iz)) (hQ1 : ∀ v, rz = .inl v → Q (.inl (some (.int v))) (Iz, J, sm_rf t d)) (hQ2 : ∀ E, rz = .inr E → Q (.inr E) (Iz, J, sm_rf t d))  : sm_W sm_sh X (sm_C sm_sh X sm_P D) me_148 Q (0, [some (.ref 0), some (.int x1), none], [], 0, 0) (I, J, sm_rf t d) := by
  unfold F_VM_gone at h
  rcases ht with rfl | rfl
  · skip
    refine sm_W.run (sm_C_mono D) 2 (G := True) (fr' := (if decide (x1 < 0) = true then 5 else 2, [some (.ref 0), some (.int x1), none], [], 0, 0)) (M' := (I, J, sm_rf 21 d)) rfl trivial (sm_W.iteD h (fun hc h => ?_) (fun hc h => ?_))
    · cases h
      exact sm_W.thr (sm_C_mono D) rfl (hQ2 _ rfl)
    · refine sm_W.run (sm_C_mono D) 3 (G := True) (fr' := (if decide (x1 < (3 : Int32)) = true then 10 else 5, [some (.ref 0), some (.int x1), none], [], 0, 0)) (M' := (I, J, sm_rf 21 d)) rfl trivial (sm_W.iteD h (fun hc h => ?_) (fun hc h => ?_))
      · refine sm_W.run (sm_C_mono D) 5 (G := True) (fr' := (15, [some (.ref 0), some (.int x1), none], [.ref 9, .ref 20], 0, 0)) (M' := (I, J, sm_rf 21 d)) rfl trivial ?_
        obtain ⟨I1, hc, h⟩ := sd_q1_go h
        refine sm_W.cal (sm_C_mono D) (y := 58) (as := [.ref 20, .ref 9]) (fr' := (16, [some (.ref 0), some (.int x1), none], [], 0, 0)) rfl (T_State_copyFrom (by omega) (by decide) hc ?_)
        show sm_W sm_sh X (sm_C sm_sh X sm_P D) me_148 Q (16, [some (.ref 0), some (.int x1), none], [], 0, 0) (I1, J, sm_rf 21 d)
        refine sm_W.run (sm_C_mono D) 2 (G := True) (fr' := (18, [some (.ref 0), some (.int x1), some (.int (0 : Int32))], [], 0, 0)) (M' := (I1, J, sm_rf 21 d)) rfl trivial ?_
        exact (G_VM_gone_18 hD (by decide) hQ1 hQ2 sd_fu _ _ _ h)
      · cases h
        exact sm_W.thr (sm_C_mono D) rfl (hQ2 _ rfl)
  · skip
    refine sm_W.run (sm_C_mono D) 2 (G := True) (fr' := (if decide (x1 < 0) = true then 5 else 2, [some (.ref 0), some (.int x1), none], [], 0, 0)) (M' := (I, J, sm_rf 41 d)) rfl trivial (sm_W.iteD h (fun hc h => ?_) (fun hc h => ?_))
    · cases h
      exact sm_W.thr (sm_C_mono D) rfl (hQ2 _ rfl)
    · refine sm_W.run (sm_C_mono D) 3 (G := True) (fr' := (if decide (x1 < (3 : Int32)) = true then 10 else 5, [some (.ref 0), some (.int x1), none], [], 0, 0)) (M' := (I, J, sm_rf 41 d)) rfl trivial (sm_W.iteD h (fun hc h => ?_) (fun hc h => ?_))
      · refine sm_W.run (sm_C_mono D) 5 (G := True) (fr' := (15, [some (.ref 0), some (.int x1), none], [.ref 9, .ref 20], 0, 0)) (M' := (I, J, sm_rf 41 d)) rfl trivial ?_
        obtain ⟨I1, hc, h⟩ := sd_q1_go h
        refine sm_W.cal (sm_C_mono D) (y := 58) (as := [.ref 20, .ref 9]) (fr' := (16, [some (.ref 0), some (.int x1), none], [], 0, 0)) rfl (T_State_copyFrom (by omega) (by decide) hc ?_)
        show sm_W sm_sh X (sm_C sm_sh X sm_P D) me_148 Q (16, [some (.ref 0), some (.int x1), none], [], 0, 0) (I1, J, sm_rf 41 d)
        refine sm_W.run (sm_C_mono D) 2 (G := True) (fr' := (18, [some (.ref 0), some (.int x1), some (.int (0 : Int32))], [], 0, 0)) (M' := (I1, J, sm_rf 41 d)) rfl trivial ?_
        exact (G_VM_gone_18 hD (by decide) hQ1 hQ2 sd_fu _ _ _ h)
      · cases h
        exact sm_W.thr (sm_C_mono D) rfl (hQ2 _ rfl)
theorem T_VM_gone {X : Nat × (Nat → Int32)} {t d D : Nat} {Q : sm_Q} {I : sm_MI} {J : sm_MJ} {x1 : Int32} {rz : (Int32 ⊕ Nat)} {Iz : sm_MI}
    (hD : 7 ≤ D) (ht : t = 21 ∨ t = 41) (h : F_VM_gone t x1 I = some (rz, Iz)) (hQ1 : ∀ v, rz = .inl v → Q (.inl (some (.int v))) (Iz, J, sm_rf t d)) (hQ2 : ∀ E, rz = .inr E → Q (.inr E) (Iz, J, sm_rf t d)) : sm_C sm_sh X sm_P D 148 [.ref 0, .int x1] (I, J, sm_rf t d) Q := by
  cases D with
  | zero => omega
  | succ D => exact sm_C.of (me := me_148) (L := [some (.ref 0), some (.int x1), none]) rfl rfl rfl (sm_W.forget (L' := [some (.ref 0), some (.int x1), none]) ⟨rfl, ⟨rfl, trivial⟩⟩ (G_VM_gone (by omega) ht h hQ1 hQ2))
-- 149 VM_game
noncomputable def F_VM_game_24B (t : Nat) (k24 : Int32 → Int32 → Int32 → Int32 → sm_MI → Option ((Int32 ⊕ Nat) × sm_MI)) (x1 : Int32) (x2 : Int32) (x3 : Int32) (x4 : Int32) (I : sm_MI) : Option ((Int32 ⊕ Nat) × sm_MI) :=
  if (4 : Int32) ≤ x4 then
    if ¬ x2 = 0 then
      some (.inl (-1 : Int32), I)
    else
      some (.inl x3, I)
  else
    sd_q2 (F_War_coupleRests t (x4 >>> ((1 : Int32) &&& 31)) (x4 &&& (1 : Int32)) x1 I) fun r1 I2 =>
    if r1 = 0 then
      k24 x1 x2 x3 (x4 + (1 : Int32)) I2
    else
      if ¬ x2 = (1 : Int32) then
        k24 x1 x2 (x3 + (1 : Int32)) (x4 + (1 : Int32)) I2
      else
        some (.inl (((10 : Int32) * (x4 >>> ((1 : Int32) &&& 31))) + (x4 &&& (1 : Int32))), I2)
noncomputable def F_VM_game_24 (t : Nat) (n : Nat) : Int32 → Int32 → Int32 → Int32 → sm_MI → Option ((Int32 ⊕ Nat) × sm_MI) :=
  sd_fix (fun k x1 x2 x3 x4 I => F_VM_game_24B t k x1 x2 x3 x4 I) (fun _ _ _ _ _ => none) n
noncomputable def F_VM_game (t : Nat) (x1 : Int32) (x2 : Int32) (I : sm_MI) : Option ((Int32 ⊕ Nat) × sm_MI) :=
  if x2 < 0 then
    some (.inr 1, I)
  else
    if x2 ≤ (1 : Int32) then
      if x1 < 0 then
        some (.inr 0, I)
      else
        if x1 ≤ (99 : Int32) then
          F_VM_game_24 t sd_fu x1 x2 (0 : Int32) (0 : Int32) I
        else
          some (.inr 0, I)
    else
      some (.inr 1, I)
theorem G_VM_game_24B {X : Nat × (Nat → Int32)} {t d D : Nat} {Q : sm_Q} {I : sm_MI} {J : sm_MJ} {k24 : Int32 → Int32 → Int32 → Int32 → sm_MI → Option ((Int32 ⊕ Nat) × sm_MI)} {x1 : Int32} {x2 : Int32} {x3 : Int32} {x4 : Int32} {rz : (Int32 ⊕ Nat)} {Iz : sm_MI}
    (hD : 6 ≤ D) (ht : t = 21 ∨ t = 41) (h : F_VM_game_24B t k24 x1 x2 x3 x4 I = some (rz, Iz)) (hQ1 : ∀ v, rz = .inl v → Q (.inl (some (.int v))) (Iz, J, sm_rf t d)) (hQ2 : ∀ E, rz = .inr E → Q (.inr E) (Iz, J, sm_rf t d)) (hk24 : ∀ (x1 : Int32) (x2 : Int32) (x3 : Int32) (x4 : Int32) (I : sm_MI), k24 x1 x2 x3 x4 I = some (rz, Iz) → sm_W sm_sh X (sm_C sm_sh X sm_P D) me_149 Q (24, [some (.ref 0), some (.int x1), some (.int x2), some (.int x3), some (.int x4)], [], 0, 0) (I, J, sm_rf t d)) : sm_W sm_sh X (sm_C sm_sh X sm_P D) me_149 Q (24, [some (.ref 0), some (.int x1), some (.int x2), some (.int x3), some (.int x4)], [], 0, 0) (I, J, sm_rf t d) := by
  unfold F_VM_game_24B at h
  rcases ht with rfl | rfl
  · skip
    refine sm_W.run (sm_C_mono D) 3 (G := True) (fr' := (if decide ((4 : Int32) ≤ x4) = true then 57 else 27, [some (.ref 0), some (.int x1), some (.int x2), some (.int x3), some (.int x4)], [], 0, 0)) (M' := (I, J, sm_rf 21 d)) rfl trivial (sm_W.iteD h (fun hc h => ?_) (fun hc h => ?_))
    · refine sm_W.run (sm_C_mono D) 2 (G := True) (fr' := (if decide (¬ x2 = 0) = true then 61 else 59, [some (.ref 0), some (.int x1), some (.int x2), some (.int x3), some (.int x4)], [], 0, 0)) (M' := (I, J, sm_rf 21 d)) rfl trivial (sm_W.iteD h (fun hc h => ?_) (fun hc h => ?_))
      · refine sm_W.run (sm_C_mono D) 1 (G := True) (fr' := (62, [some (.ref 0), some (.int x1), some (.int x2), some (.int x3), some (.int x4)], [.int (-1 : Int32)], 0, 0)) (M' := (I, J, sm_rf 21 d)) rfl trivial ?_
        cases h
        exact sm_W.ret (sm_C_mono D) rfl (hQ1 _ rfl)
      · refine sm_W.run (sm_C_mono D) 2 (G := True) (fr' := (62, [some (.ref 0), some (.int x1), some (.int x2), some (.int x3), some (.int x4)], [.int x3], 0, 0)) (M' := (I, J, sm_rf 21 d)) rfl trivial ?_
        cases h
        exact sm_W.ret (sm_C_mono D) rfl (hQ1 _ rfl)
    · refine sm_W.run (sm_C_mono D) 12 (G := True) (fr' := (39, [some (.ref 0), some (.int x1), some (.int x2), some (.int x3), some (.int x4)], [.int x1, .int (x4 &&& (1 : Int32)), .int (x4 >>> ((1 : Int32) &&& 31)), .ref 9, .ref 21], 0, 0)) (M' := (I, J, sm_rf 21 d)) rfl trivial ?_
      obtain ⟨r1, I2, hc, h⟩ := sd_q2_go h
      refine sm_W.cal (sm_C_mono D) (y := 99) (as := [.ref 21, .ref 9, .int (x4 >>> ((1 : Int32) &&& 31)), .int (x4 &&& (1 : Int32)), .int x1]) (fr' := (40, [some (.ref 0), some (.int x1), some (.int x2), some (.int x3), some (.int x4)], [], 0, 0)) rfl (T_War_coupleRests (by omega) (by decide) hc ?_)
      show sm_W sm_sh X (sm_C sm_sh X sm_P D) me_149 Q (40, [some (.ref 0), some (.int x1), some (.int x2), some (.int x3), some (.int x4)], [.int r1], 0, 0) (I2, J, sm_rf 21 d)
      refine sm_W.run (sm_C_mono D) 1 (G := True) (fr' := (if decide (r1 = 0) = true then 55 else 41, [some (.ref 0), some (.int x1), some (.int x2), some (.int x3), some (.int x4)], [], 0, 0)) (M' := (I2, J, sm_rf 21 d)) rfl trivial (sm_W.iteD h (fun hc h => ?_) (fun hc h => ?_))
      · refine sm_W.run (sm_C_mono D) 2 (G := True) (fr' := (24, [some (.ref 0), some (.int x1), some (.int x2), some (.int x3), some (.int (x4 + (1 : Int32)))], [], 0, 0)) (M' := (I2, J, sm_rf 21 d)) rfl trivial ?_
        exact (hk24 _ _ _ _ _ h)
      · refine sm_W.run (sm_C_mono D) 3 (G := True) (fr' := (if decide (¬ x2 = (1 : Int32)) = true then 54 else 44, [some (.ref 0), some (.int x1), some (.int x2), some (.int x3), some (.int x4)], [], 0, 0)) (M' := (I2, J, sm_rf 21 d)) rfl trivial (sm_W.iteD h (fun hc h => ?_) (fun hc h => ?_))
        · refine sm_W.run (sm_C_mono D) 3 (G := True) (fr' := (24, [some (.ref 0), some (.int x1), some (.int x2), some (.int (x3 + (1 : Int32))), some (.int (x4 + (1 : Int32)))], [], 0, 0)) (M' := (I2, J, sm_rf 21 d)) rfl trivial ?_
          exact (hk24 _ _ _ _ _ h)
        · refine sm_W.run (sm_C_mono D) 9 (G := True) (fr' := (53, [some (.ref 0), some (.int x1), some (.int x2), some (.int x3), some (.int x4)], [.int (((10 : Int32) * (x4 >>> ((1 : Int32) &&& 31))) + (x4 &&& (1 : Int32)))], 0, 0)) (M' := (I2, J, sm_rf 21 d)) rfl trivial ?_
          cases h
          exact sm_W.ret (sm_C_mono D) rfl (hQ1 _ rfl)
  · skip
    refine sm_W.run (sm_C_mono D) 3 (G := True) (fr' := (if decide ((4 : Int32) ≤ x4) = true then 57 else 27, [some (.ref 0), some (.int x1), some (.int x2), some (.int x3), some (.int x4)], [], 0, 0)) (M' := (I, J, sm_rf 41 d)) rfl trivial (sm_W.iteD h (fun hc h => ?_) (fun hc h => ?_))
    · refine sm_W.run (sm_C_mono D) 2 (G := True) (fr' := (if decide (¬ x2 = 0) = true then 61 else 59, [some (.ref 0), some (.int x1), some (.int x2), some (.int x3), some (.int x4)], [], 0, 0)) (M' := (I, J, sm_rf 41 d)) rfl trivial (sm_W.iteD h (fun hc h => ?_) (fun hc h => ?_))
      · refine sm_W.run (sm_C_mono D) 1 (G := True) (fr' := (62, [some (.ref 0), some (.int x1), some (.int x2), some (.int x3), some (.int x4)], [.int (-1 : Int32)], 0, 0)) (M' := (I, J, sm_rf 41 d)) rfl trivial ?_
        cases h
        exact sm_W.ret (sm_C_mono D) rfl (hQ1 _ rfl)
      · refine sm_W.run (sm_C_mono D) 2 (G := True) (fr' := (62, [some (.ref 0), some (.int x1), some (.int x2), some (.int x3), some (.int x4)], [.int x3], 0, 0)) (M' := (I, J, sm_rf 41 d)) rfl trivial ?_
        cases h
        exact sm_W.ret (sm_C_mono D) rfl (hQ1 _ rfl)
    · refine sm_W.run (sm_C_mono D) 12 (G := True) (fr' := (39, [some (.ref 0), some (.int x1), some (.int x2), some (.int x3), some (.int x4)], [.int x1, .int (x4 &&& (1 : Int32)), .int (x4 >>> ((1 : Int32) &&& 31)), .ref 9, .ref 41], 0, 0)) (M' := (I, J, sm_rf 41 d)) rfl trivial ?_
      obtain ⟨r1, I2, hc, h⟩ := sd_q2_go h
      refine sm_W.cal (sm_C_mono D) (y := 99) (as := [.ref 41, .ref 9, .int (x4 >>> ((1 : Int32) &&& 31)), .int (x4 &&& (1 : Int32)), .int x1]) (fr' := (40, [some (.ref 0), some (.int x1), some (.int x2), some (.int x3), some (.int x4)], [], 0, 0)) rfl (T_War_coupleRests (by omega) (by decide) hc ?_)
      show sm_W sm_sh X (sm_C sm_sh X sm_P D) me_149 Q (40, [some (.ref 0), some (.int x1), some (.int x2), some (.int x3), some (.int x4)], [.int r1], 0, 0) (I2, J, sm_rf 41 d)
      refine sm_W.run (sm_C_mono D) 1 (G := True) (fr' := (if decide (r1 = 0) = true then 55 else 41, [some (.ref 0), some (.int x1), some (.int x2), some (.int x3), some (.int x4)], [], 0, 0)) (M' := (I2, J, sm_rf 41 d)) rfl trivial (sm_W.iteD h (fun hc h => ?_) (fun hc h => ?_))
      · refine sm_W.run (sm_C_mono D) 2 (G := True) (fr' := (24, [some (.ref 0), some (.int x1), some (.int x2), some (.int x3), some (.int (x4 + (1 : Int32)))], [], 0, 0)) (M' := (I2, J, sm_rf 41 d)) rfl trivial ?_
        exact (hk24 _ _ _ _ _ h)
      · refine sm_W.run (sm_C_mono D) 3 (G := True) (fr' := (if decide (¬ x2 = (1 : Int32)) = true then 54 else 44, [some (.ref 0), some (.int x1), some (.int x2), some (.int x3), some (.int x4)], [], 0, 0)) (M' := (I2, J, sm_rf 41 d)) rfl trivial (sm_W.iteD h (fun hc h => ?_) (fun hc h => ?_))
        · refine sm_W.run (sm_C_mono D) 3 (G := True) (fr' := (24, [some (.ref 0), some (.int x1), some (.int x2), some (.int (x3 + (1 : Int32))), some (.int (x4 + (1 : Int32)))], [], 0, 0)) (M' := (I2, J, sm_rf 41 d)) rfl trivial ?_
          exact (hk24 _ _ _ _ _ h)
        · refine sm_W.run (sm_C_mono D) 9 (G := True) (fr' := (53, [some (.ref 0), some (.int x1), some (.int x2), some (.int x3), some (.int x4)], [.int (((10 : Int32) * (x4 >>> ((1 : Int32) &&& 31))) + (x4 &&& (1 : Int32)))], 0, 0)) (M' := (I2, J, sm_rf 41 d)) rfl trivial ?_
          cases h
          exact sm_W.ret (sm_C_mono D) rfl (hQ1 _ rfl)
theorem G_VM_game_24 {X : Nat × (Nat → Int32)} {t d D : Nat} {Q : sm_Q} {J : sm_MJ} {rz : (Int32 ⊕ Nat)} {Iz : sm_MI}
    (hD : 6 ≤ D) (ht : t = 21 ∨ t = 41) (hQ1 : ∀ v, rz = .inl v → Q (.inl (some (.int v))) (Iz, J, sm_rf t d)) (hQ2 : ∀ E, rz = .inr E → Q (.inr E) (Iz, J, sm_rf t d))  : ∀ (n : Nat) (x1 : Int32) (x2 : Int32) (x3 : Int32) (x4 : Int32) (I : sm_MI), F_VM_game_24 t n x1 x2 x3 x4 I = some (rz, Iz) → sm_W sm_sh X (sm_C sm_sh X sm_P D) me_149 Q (24, [some (.ref 0), some (.int x1), some (.int x2), some (.int x3), some (.int x4)], [], 0, 0) (I, J, sm_rf t d) := by
  intro n
  induction n with
  | zero => intro x1 x2 x3 x4 I h; cases (show (none : Option ((Int32 ⊕ Nat) × sm_MI)) = some (rz, Iz) from h)
  | succ n ih => intro x1 x2 x3 x4 I h; exact G_VM_game_24B hD ht (show F_VM_game_24B t (F_VM_game_24 t n) x1 x2 x3 x4 I = some (rz, Iz) from h) hQ1 hQ2  ih
theorem G_VM_game {X : Nat × (Nat → Int32)} {t d D : Nat} {Q : sm_Q} {I : sm_MI} {J : sm_MJ} {x1 : Int32} {x2 : Int32} {rz : (Int32 ⊕ Nat)} {Iz : sm_MI}
    (hD : 6 ≤ D) (ht : t = 21 ∨ t = 41) (h : F_VM_game t x1 x2 I = some (rz, Iz)) (hQ1 : ∀ v, rz = .inl v → Q (.inl (some (.int v))) (Iz, J, sm_rf t d)) (hQ2 : ∀ E, rz = .inr E → Q (.inr E) (Iz, J, sm_rf t d))  : sm_W sm_sh X (sm_C sm_sh X sm_P D) me_149 Q (0, [some (.ref 0), some (.int x1), some (.int x2), none, none], [], 0, 0) (I, J, sm_rf t d) := by
  unfold F_VM_game at h
  rcases ht with rfl | rfl
  · skip
    refine sm_W.run (sm_C_mono D) 2 (G := True) (fr' := (if decide (x2 < 0) = true then 5 else 2, [some (.ref 0), some (.int x1), some (.int x2), none, none], [], 0, 0)) (M' := (I, J, sm_rf 21 d)) rfl trivial (sm_W.iteD h (fun hc h => ?_) (fun hc h => ?_))
    · cases h
      exact sm_W.thr (sm_C_mono D) rfl (hQ2 _ rfl)
    · refine sm_W.run (sm_C_mono D) 3 (G := True) (fr' := (if decide (x2 ≤ (1 : Int32)) = true then 10 else 5, [some (.ref 0), some (.int x1), some (.int x2), none, none], [], 0, 0)) (M' := (I, J, sm_rf 21 d)) rfl trivial (sm_W.iteD h (fun hc h => ?_) (fun hc h => ?_))
      · refine sm_W.run (sm_C_mono D) 2 (G := True) (fr' := (if decide (x1 < 0) = true then 15 else 12, [some (.ref 0), some (.int x1), some (.int x2), none, none], [], 0, 0)) (M' := (I, J, sm_rf 21 d)) rfl trivial (sm_W.iteD h (fun hc h => ?_) (fun hc h => ?_))
        · cases h
          exact sm_W.thr (sm_C_mono D) rfl (hQ2 _ rfl)
        · refine sm_W.run (sm_C_mono D) 3 (G := True) (fr' := (if decide (x1 ≤ (99 : Int32)) = true then 20 else 15, [some (.ref 0), some (.int x1), some (.int x2), none, none], [], 0, 0)) (M' := (I, J, sm_rf 21 d)) rfl trivial (sm_W.iteD h (fun hc h => ?_) (fun hc h => ?_))
          · refine sm_W.run (sm_C_mono D) 4 (G := True) (fr' := (24, [some (.ref 0), some (.int x1), some (.int x2), some (.int (0 : Int32)), some (.int (0 : Int32))], [], 0, 0)) (M' := (I, J, sm_rf 21 d)) rfl trivial ?_
            exact (G_VM_game_24 hD (by decide) hQ1 hQ2 sd_fu _ _ _ _ _ h)
          · cases h
            exact sm_W.thr (sm_C_mono D) rfl (hQ2 _ rfl)
      · cases h
        exact sm_W.thr (sm_C_mono D) rfl (hQ2 _ rfl)
  · skip
    refine sm_W.run (sm_C_mono D) 2 (G := True) (fr' := (if decide (x2 < 0) = true then 5 else 2, [some (.ref 0), some (.int x1), some (.int x2), none, none], [], 0, 0)) (M' := (I, J, sm_rf 41 d)) rfl trivial (sm_W.iteD h (fun hc h => ?_) (fun hc h => ?_))
    · cases h
      exact sm_W.thr (sm_C_mono D) rfl (hQ2 _ rfl)
    · refine sm_W.run (sm_C_mono D) 3 (G := True) (fr' := (if decide (x2 ≤ (1 : Int32)) = true then 10 else 5, [some (.ref 0), some (.int x1), some (.int x2), none, none], [], 0, 0)) (M' := (I, J, sm_rf 41 d)) rfl trivial (sm_W.iteD h (fun hc h => ?_) (fun hc h => ?_))
      · refine sm_W.run (sm_C_mono D) 2 (G := True) (fr' := (if decide (x1 < 0) = true then 15 else 12, [some (.ref 0), some (.int x1), some (.int x2), none, none], [], 0, 0)) (M' := (I, J, sm_rf 41 d)) rfl trivial (sm_W.iteD h (fun hc h => ?_) (fun hc h => ?_))
        · cases h
          exact sm_W.thr (sm_C_mono D) rfl (hQ2 _ rfl)
        · refine sm_W.run (sm_C_mono D) 3 (G := True) (fr' := (if decide (x1 ≤ (99 : Int32)) = true then 20 else 15, [some (.ref 0), some (.int x1), some (.int x2), none, none], [], 0, 0)) (M' := (I, J, sm_rf 41 d)) rfl trivial (sm_W.iteD h (fun hc h => ?_) (fun hc h => ?_))
          · refine sm_W.run (sm_C_mono D) 4 (G := True) (fr' := (24, [some (.ref 0), some (.int x1), some (.int x2), some (.int (0 : Int32)), some (.int (0 : Int32))], [], 0, 0)) (M' := (I, J, sm_rf 41 d)) rfl trivial ?_
            exact (G_VM_game_24 hD (by decide) hQ1 hQ2 sd_fu _ _ _ _ _ h)
          · cases h
            exact sm_W.thr (sm_C_mono D) rfl (hQ2 _ rfl)
      · cases h
        exact sm_W.thr (sm_C_mono D) rfl (hQ2 _ rfl)
theorem T_VM_game {X : Nat × (Nat → Int32)} {t d D : Nat} {Q : sm_Q} {I : sm_MI} {J : sm_MJ} {x1 : Int32} {x2 : Int32} {rz : (Int32 ⊕ Nat)} {Iz : sm_MI}
    (hD : 7 ≤ D) (ht : t = 21 ∨ t = 41) (h : F_VM_game t x1 x2 I = some (rz, Iz)) (hQ1 : ∀ v, rz = .inl v → Q (.inl (some (.int v))) (Iz, J, sm_rf t d)) (hQ2 : ∀ E, rz = .inr E → Q (.inr E) (Iz, J, sm_rf t d)) : sm_C sm_sh X sm_P D 149 [.ref 0, .int x1, .int x2] (I, J, sm_rf t d) Q := by
  cases D with
  | zero => omega
  | succ D => exact sm_C.of (me := me_149) (L := [some (.ref 0), some (.int x1), some (.int x2), none, none]) rfl rfl rfl (sm_W.forget (L' := [some (.ref 0), some (.int x1), some (.int x2), none, none]) ⟨rfl, ⟨rfl, ⟨rfl, trivial⟩⟩⟩ (G_VM_game (by omega) ht h hQ1 hQ2))
-- 150 VM_wars
noncomputable def F_VM_wars_55 (t : Nat) (k30 : Int32 → Int32 → Int32 → Int32 → sm_MI → Option ((Int32 ⊕ Nat) × sm_MI)) (x2 : Int32) (x3 : Int32) (x4 : Int32) (x5 : Int32) (I : sm_MI) : Option ((Int32 ⊕ Nat) × sm_MI) :=
  sd_q2 (F_War_passDay t 20 I) fun r1 I2 =>
  k30 x2 x3 x4 (x5 + (1 : Int32)) I2
noncomputable def F_VM_wars_30B (t : Nat) (k30 : Int32 → Int32 → Int32 → Int32 → sm_MI → Option ((Int32 ⊕ Nat) × sm_MI)) (x2 : Int32) (x3 : Int32) (x4 : Int32) (x5 : Int32) (I : sm_MI) : Option ((Int32 ⊕ Nat) × sm_MI) :=
  if x2 ≤ x5 then
    if x3 = (0 : Int32) then
      sd_q1 (F_Int_bitCount (I 20 2)) fun r1 =>
      some (.inl r1, I)
    else if x3 = (1 : Int32) then
      some (.inl ((I 20 4) - (I 9 4)), I)
    else 
      sd_q1 (F_Valley_singable t (I 20 0) I) fun r2 =>
      sd_q1 (F_Int_bitCount r2) fun r3 =>
      some (.inl r3, I)
  else
    if (I t 0) ≤ 0 then
      F_VM_wars_55 t k30 x2 x3 x4 x5 I
    else
      sd_lt ((x4 * (1103515245 : Int32)) + (12345 : Int32)) fun a4 =>
      sd_gu (¬ (I t 0) = 0) <|
      sd_q1 (F_State_turn (sd_mod ((sd_ush a4 (16 : Int32)) &&& (32767 : Int32)) (I t 0)) I) fun I6 =>
      F_VM_wars_55 t k30 x2 x3 a4 x5 I6
noncomputable def F_VM_wars_30 (t : Nat) (n : Nat) : Int32 → Int32 → Int32 → Int32 → sm_MI → Option ((Int32 ⊕ Nat) × sm_MI) :=
  sd_fix (fun k x2 x3 x4 x5 I => F_VM_wars_30B t k x2 x3 x4 x5 I) (fun _ _ _ _ _ => none) n
noncomputable def F_VM_wars (t : Nat) (x1 : Int32) (x2 : Int32) (x3 : Int32) (I : sm_MI) : Option ((Int32 ⊕ Nat) × sm_MI) :=
  if x3 < 0 then
    some (.inr 1, I)
  else
    if x3 ≤ (2 : Int32) then
      if x2 < 0 then
        some (.inr 0, I)
      else
        if x2 ≤ (60 : Int32) then
          sd_q1 (F_State_copyFrom 20 9 I) fun I1 =>
          F_VM_wars_30 t sd_fu x2 x3 x1 (0 : Int32) I1
        else
          some (.inr 0, I)
    else
      some (.inr 1, I)
theorem G_VM_wars_55 {X : Nat × (Nat → Int32)} {t d D : Nat} {Q : sm_Q} {I : sm_MI} {J : sm_MJ} {k30 : Int32 → Int32 → Int32 → Int32 → sm_MI → Option ((Int32 ⊕ Nat) × sm_MI)} {x2 : Int32} {x3 : Int32} {x4 : Int32} {x5 : Int32} {rz : (Int32 ⊕ Nat)} {Iz : sm_MI}
    (hD : 6 ≤ D) (ht : t = 21 ∨ t = 41) (h : F_VM_wars_55 t k30 x2 x3 x4 x5 I = some (rz, Iz)) (hQ1 : ∀ v, rz = .inl v → Q (.inl (some (.int v))) (Iz, J, sm_rf t d)) (hQ2 : ∀ E, rz = .inr E → Q (.inr E) (Iz, J, sm_rf t d)) (hk30 : ∀ (x2 : Int32) (x3 : Int32) (x4 : Int32) (x5 : Int32) (I : sm_MI), k30 x2 x3 x4 x5 I = some (rz, Iz) → sm_W sm_sh X (sm_C sm_sh X sm_P D) me_150 Q (30, [some (.ref 0), none, some (.int x2), some (.int x3), some (.int x4), some (.int x5)], [], 0, 0) (I, J, sm_rf t d)) : sm_W sm_sh X (sm_C sm_sh X sm_P D) me_150 Q (55, [some (.ref 0), none, some (.int x2), some (.int x3), some (.int x4), some (.int x5)], [], 0, 0) (I, J, sm_rf t d) := by
  unfold F_VM_wars_55 at h
  rcases ht with rfl | rfl
  · skip
    refine sm_W.run (sm_C_mono D) 4 (G := True) (fr' := (59, [some (.ref 0), none, some (.int x2), some (.int x3), some (.int x4), some (.int x5)], [.ref 20, .ref 21], 0, 0)) (M' := (I, J, sm_rf 21 d)) rfl trivial ?_
    obtain ⟨r1, I2, hc, h⟩ := sd_q2_go h
    refine sm_W.cal (sm_C_mono D) (y := 98) (as := [.ref 21, .ref 20]) (fr' := (60, [some (.ref 0), none, some (.int x2), some (.int x3), some (.int x4), some (.int x5)], [], 0, 0)) rfl (T_War_passDay (by omega) (by decide) hc ?_)
    show sm_W sm_sh X (sm_C sm_sh X sm_P D) me_150 Q (60, [some (.ref 0), none, some (.int x2), some (.int x3), some (.int x4), some (.int x5)], [.int r1], 0, 0) (I2, J, sm_rf 21 d)
    refine sm_W.run (sm_C_mono D) 3 (G := True) (fr' := (30, [some (.ref 0), none, some (.int x2), some (.int x3), some (.int x4), some (.int (x5 + (1 : Int32)))], [], 0, 0)) (M' := (I2, J, sm_rf 21 d)) rfl trivial ?_
    exact (hk30 _ _ _ _ _ h)
  · skip
    refine sm_W.run (sm_C_mono D) 4 (G := True) (fr' := (59, [some (.ref 0), none, some (.int x2), some (.int x3), some (.int x4), some (.int x5)], [.ref 20, .ref 41], 0, 0)) (M' := (I, J, sm_rf 41 d)) rfl trivial ?_
    obtain ⟨r1, I2, hc, h⟩ := sd_q2_go h
    refine sm_W.cal (sm_C_mono D) (y := 98) (as := [.ref 41, .ref 20]) (fr' := (60, [some (.ref 0), none, some (.int x2), some (.int x3), some (.int x4), some (.int x5)], [], 0, 0)) rfl (T_War_passDay (by omega) (by decide) hc ?_)
    show sm_W sm_sh X (sm_C sm_sh X sm_P D) me_150 Q (60, [some (.ref 0), none, some (.int x2), some (.int x3), some (.int x4), some (.int x5)], [.int r1], 0, 0) (I2, J, sm_rf 41 d)
    refine sm_W.run (sm_C_mono D) 3 (G := True) (fr' := (30, [some (.ref 0), none, some (.int x2), some (.int x3), some (.int x4), some (.int (x5 + (1 : Int32)))], [], 0, 0)) (M' := (I2, J, sm_rf 41 d)) rfl trivial ?_
    exact (hk30 _ _ _ _ _ h)
theorem G_VM_wars_30B {X : Nat × (Nat → Int32)} {t d D : Nat} {Q : sm_Q} {I : sm_MI} {J : sm_MJ} {k30 : Int32 → Int32 → Int32 → Int32 → sm_MI → Option ((Int32 ⊕ Nat) × sm_MI)} {x2 : Int32} {x3 : Int32} {x4 : Int32} {x5 : Int32} {rz : (Int32 ⊕ Nat)} {Iz : sm_MI}
    (hD : 6 ≤ D) (ht : t = 21 ∨ t = 41) (h : F_VM_wars_30B t k30 x2 x3 x4 x5 I = some (rz, Iz)) (hQ1 : ∀ v, rz = .inl v → Q (.inl (some (.int v))) (Iz, J, sm_rf t d)) (hQ2 : ∀ E, rz = .inr E → Q (.inr E) (Iz, J, sm_rf t d)) (hk30 : ∀ (x2 : Int32) (x3 : Int32) (x4 : Int32) (x5 : Int32) (I : sm_MI), k30 x2 x3 x4 x5 I = some (rz, Iz) → sm_W sm_sh X (sm_C sm_sh X sm_P D) me_150 Q (30, [some (.ref 0), none, some (.int x2), some (.int x3), some (.int x4), some (.int x5)], [], 0, 0) (I, J, sm_rf t d)) : sm_W sm_sh X (sm_C sm_sh X sm_P D) me_150 Q (30, [some (.ref 0), none, some (.int x2), some (.int x3), some (.int x4), some (.int x5)], [], 0, 0) (I, J, sm_rf t d) := by
  unfold F_VM_wars_30B at h
  rcases ht with rfl | rfl
  · skip
    refine sm_W.run (sm_C_mono D) 3 (G := True) (fr' := (if decide (x2 ≤ x5) = true then 63 else 33, [some (.ref 0), none, some (.int x2), some (.int x3), some (.int x4), some (.int x5)], [], 0, 0)) (M' := (I, J, sm_rf 21 d)) rfl trivial (sm_W.iteD h (fun hc h => ?_) (fun hc h => ?_))
    · refine sm_W.run (sm_C_mono D) 2 (G := True) (fr' := (sm_sl (Int32.toInt x3) 79 [(0, 28), (1, 39)] [65, 70], [some (.ref 0), none, some (.int x2), some (.int x3), some (.int x4), some (.int x5)], [], 0, 0)) (M' := (I, J, sm_rf 21 d)) rfl trivial ?_
      refine sm_W.slS (c := (0 : Int32)) (by decide) h (fun h => ?_) (fun h => ?_)
      · refine sm_W.run (sm_C_mono D) 3 (G := True) (fr' := (68, [some (.ref 0), none, some (.int x2), some (.int x3), some (.int x4), some (.int x5)], [.int (I 20 2)], 0, 0)) (M' := (I, J, sm_rf 21 d)) rfl trivial ?_
        obtain ⟨r1, hc, h⟩ := sd_q1_go h
        refine sm_W.cal (sm_C_mono D) (y := 268) (as := [.int (I 20 2)]) (fr' := (69, [some (.ref 0), none, some (.int x2), some (.int x3), some (.int x4), some (.int x5)], [], 0, 0)) rfl (T_Int_bitCount (by omega) hc ?_)
        show sm_W sm_sh X (sm_C sm_sh X sm_P D) me_150 Q (69, [some (.ref 0), none, some (.int x2), some (.int x3), some (.int x4), some (.int x5)], [.int r1], 0, 0) (I, J, sm_rf 21 d)
        cases h
        exact sm_W.ret (sm_C_mono D) rfl (hQ1 _ rfl)
      refine sm_W.slS (c := (1 : Int32)) (by decide) h (fun h => ?_) (fun h => ?_)
      · refine sm_W.run (sm_C_mono D) 8 (G := True) (fr' := (78, [some (.ref 0), none, some (.int x2), some (.int x3), some (.int x4), some (.int x5)], [.int ((I 20 4) - (I 9 4))], 0, 0)) (M' := (I, J, sm_rf 21 d)) rfl trivial ?_
        cases h
        exact sm_W.ret (sm_C_mono D) rfl (hQ1 _ rfl)
      refine sm_W.run (sm_C_mono D) 5 (G := True) (fr' := (84, [some (.ref 0), none, some (.int x2), some (.int x3), some (.int x4), some (.int x5)], [.int (I 20 0), .ref 21], 0, 0)) (M' := (I, J, sm_rf 21 d)) rfl trivial ?_
      obtain ⟨r2, hc, h⟩ := sd_q1_go h
      refine sm_W.cal (sm_C_mono D) (y := 89) (as := [.ref 21, .int (I 20 0)]) (fr' := (85, [some (.ref 0), none, some (.int x2), some (.int x3), some (.int x4), some (.int x5)], [], 0, 0)) rfl (T_Valley_singable (by omega) (by decide) hc ?_)
      show sm_W sm_sh X (sm_C sm_sh X sm_P D) me_150 Q (85, [some (.ref 0), none, some (.int x2), some (.int x3), some (.int x4), some (.int x5)], [.int r2], 0, 0) (I, J, sm_rf 21 d)
      obtain ⟨r3, hc, h⟩ := sd_q1_go h
      refine sm_W.cal (sm_C_mono D) (y := 268) (as := [.int r2]) (fr' := (86, [some (.ref 0), none, some (.int x2), some (.int x3), some (.int x4), some (.int x5)], [], 0, 0)) rfl (T_Int_bitCount (by omega) hc ?_)
      show sm_W sm_sh X (sm_C sm_sh X sm_P D) me_150 Q (86, [some (.ref 0), none, some (.int x2), some (.int x3), some (.int x4), some (.int x5)], [.int r3], 0, 0) (I, J, sm_rf 21 d)
      cases h
      exact sm_W.ret (sm_C_mono D) rfl (hQ1 _ rfl)
    · refine sm_W.run (sm_C_mono D) 4 (G := True) (fr' := (if decide ((I 21 0) ≤ 0) = true then 55 else 37, [some (.ref 0), none, some (.int x2), some (.int x3), some (.int x4), some (.int x5)], [], 0, 0)) (M' := (I, J, sm_rf 21 d)) rfl trivial (sm_W.iteD h (fun hc h => ?_) (fun hc h => ?_))
      · exact (G_VM_wars_55 hD (by decide) h hQ1 hQ2 hk30)
      · refine sm_W.runL (sm_C_mono D) 6 (G := True) (e := ((x4 * (1103515245 : Int32)) + (12345 : Int32))) (fr' := fun a4 => (43, [some (.ref 0), none, some (.int x2), some (.int x3), some (.int a4), some (.int x5)], [], 0, 0)) (M' := fun _ => (I, J, sm_rf 21 d)) rfl h trivial (fun a4 h => ?_)
        obtain ⟨g5, h⟩ := sd_gu_go h
        refine sm_W.run (sm_C_mono D) 11 (G := ¬ (I 21 0) = 0 ∧ True) (fr' := (54, [some (.ref 0), none, some (.int x2), some (.int x3), some (.int a4), some (.int x5)], [.int (sd_mod ((sd_ush a4 (16 : Int32)) &&& (32767 : Int32)) (I 21 0)), .ref 20], 0, 0)) (M' := (I, J, sm_rf 21 d)) rfl ⟨g5, trivial⟩ ?_
        obtain ⟨I6, hc, h⟩ := sd_q1_go h
        refine sm_W.cal (sm_C_mono D) (y := 65) (as := [.ref 20, .int (sd_mod ((sd_ush a4 (16 : Int32)) &&& (32767 : Int32)) (I 21 0))]) (fr' := (55, [some (.ref 0), none, some (.int x2), some (.int x3), some (.int a4), some (.int x5)], [], 0, 0)) rfl (T_State_turn (by omega) hc ?_)
        show sm_W sm_sh X (sm_C sm_sh X sm_P D) me_150 Q (55, [some (.ref 0), none, some (.int x2), some (.int x3), some (.int a4), some (.int x5)], [], 0, 0) (I6, J, sm_rf 21 d)
        exact (G_VM_wars_55 hD (by decide) h hQ1 hQ2 hk30)
  · skip
    refine sm_W.run (sm_C_mono D) 3 (G := True) (fr' := (if decide (x2 ≤ x5) = true then 63 else 33, [some (.ref 0), none, some (.int x2), some (.int x3), some (.int x4), some (.int x5)], [], 0, 0)) (M' := (I, J, sm_rf 41 d)) rfl trivial (sm_W.iteD h (fun hc h => ?_) (fun hc h => ?_))
    · refine sm_W.run (sm_C_mono D) 2 (G := True) (fr' := (sm_sl (Int32.toInt x3) 79 [(0, 28), (1, 39)] [65, 70], [some (.ref 0), none, some (.int x2), some (.int x3), some (.int x4), some (.int x5)], [], 0, 0)) (M' := (I, J, sm_rf 41 d)) rfl trivial ?_
      refine sm_W.slS (c := (0 : Int32)) (by decide) h (fun h => ?_) (fun h => ?_)
      · refine sm_W.run (sm_C_mono D) 3 (G := True) (fr' := (68, [some (.ref 0), none, some (.int x2), some (.int x3), some (.int x4), some (.int x5)], [.int (I 20 2)], 0, 0)) (M' := (I, J, sm_rf 41 d)) rfl trivial ?_
        obtain ⟨r1, hc, h⟩ := sd_q1_go h
        refine sm_W.cal (sm_C_mono D) (y := 268) (as := [.int (I 20 2)]) (fr' := (69, [some (.ref 0), none, some (.int x2), some (.int x3), some (.int x4), some (.int x5)], [], 0, 0)) rfl (T_Int_bitCount (by omega) hc ?_)
        show sm_W sm_sh X (sm_C sm_sh X sm_P D) me_150 Q (69, [some (.ref 0), none, some (.int x2), some (.int x3), some (.int x4), some (.int x5)], [.int r1], 0, 0) (I, J, sm_rf 41 d)
        cases h
        exact sm_W.ret (sm_C_mono D) rfl (hQ1 _ rfl)
      refine sm_W.slS (c := (1 : Int32)) (by decide) h (fun h => ?_) (fun h => ?_)
      · refine sm_W.run (sm_C_mono D) 8 (G := True) (fr' := (78, [some (.ref 0), none, some (.int x2), some (.int x3), some (.int x4), some (.int x5)], [.int ((I 20 4) - (I 9 4))], 0, 0)) (M' := (I, J, sm_rf 41 d)) rfl trivial ?_
        cases h
        exact sm_W.ret (sm_C_mono D) rfl (hQ1 _ rfl)
      refine sm_W.run (sm_C_mono D) 5 (G := True) (fr' := (84, [some (.ref 0), none, some (.int x2), some (.int x3), some (.int x4), some (.int x5)], [.int (I 20 0), .ref 41], 0, 0)) (M' := (I, J, sm_rf 41 d)) rfl trivial ?_
      obtain ⟨r2, hc, h⟩ := sd_q1_go h
      refine sm_W.cal (sm_C_mono D) (y := 89) (as := [.ref 41, .int (I 20 0)]) (fr' := (85, [some (.ref 0), none, some (.int x2), some (.int x3), some (.int x4), some (.int x5)], [], 0, 0)) rfl (T_Valley_singable (by omega) (by decide) hc ?_)
      show sm_W sm_sh X (sm_C sm_sh X sm_P D) me_150 Q (85, [some (.ref 0), none, some (.int x2), some (.int x3), some (.int x4), some (.int x5)], [.int r2], 0, 0) (I, J, sm_rf 41 d)
      obtain ⟨r3, hc, h⟩ := sd_q1_go h
      refine sm_W.cal (sm_C_mono D) (y := 268) (as := [.int r2]) (fr' := (86, [some (.ref 0), none, some (.int x2), some (.int x3), some (.int x4), some (.int x5)], [], 0, 0)) rfl (T_Int_bitCount (by omega) hc ?_)
      show sm_W sm_sh X (sm_C sm_sh X sm_P D) me_150 Q (86, [some (.ref 0), none, some (.int x2), some (.int x3), some (.int x4), some (.int x5)], [.int r3], 0, 0) (I, J, sm_rf 41 d)
      cases h
      exact sm_W.ret (sm_C_mono D) rfl (hQ1 _ rfl)
    · refine sm_W.run (sm_C_mono D) 4 (G := True) (fr' := (if decide ((I 41 0) ≤ 0) = true then 55 else 37, [some (.ref 0), none, some (.int x2), some (.int x3), some (.int x4), some (.int x5)], [], 0, 0)) (M' := (I, J, sm_rf 41 d)) rfl trivial (sm_W.iteD h (fun hc h => ?_) (fun hc h => ?_))
      · exact (G_VM_wars_55 hD (by decide) h hQ1 hQ2 hk30)
      · refine sm_W.runL (sm_C_mono D) 6 (G := True) (e := ((x4 * (1103515245 : Int32)) + (12345 : Int32))) (fr' := fun a4 => (43, [some (.ref 0), none, some (.int x2), some (.int x3), some (.int a4), some (.int x5)], [], 0, 0)) (M' := fun _ => (I, J, sm_rf 41 d)) rfl h trivial (fun a4 h => ?_)
        obtain ⟨g5, h⟩ := sd_gu_go h
        refine sm_W.run (sm_C_mono D) 11 (G := ¬ (I 41 0) = 0 ∧ True) (fr' := (54, [some (.ref 0), none, some (.int x2), some (.int x3), some (.int a4), some (.int x5)], [.int (sd_mod ((sd_ush a4 (16 : Int32)) &&& (32767 : Int32)) (I 41 0)), .ref 20], 0, 0)) (M' := (I, J, sm_rf 41 d)) rfl ⟨g5, trivial⟩ ?_
        obtain ⟨I6, hc, h⟩ := sd_q1_go h
        refine sm_W.cal (sm_C_mono D) (y := 65) (as := [.ref 20, .int (sd_mod ((sd_ush a4 (16 : Int32)) &&& (32767 : Int32)) (I 41 0))]) (fr' := (55, [some (.ref 0), none, some (.int x2), some (.int x3), some (.int a4), some (.int x5)], [], 0, 0)) rfl (T_State_turn (by omega) hc ?_)
        show sm_W sm_sh X (sm_C sm_sh X sm_P D) me_150 Q (55, [some (.ref 0), none, some (.int x2), some (.int x3), some (.int a4), some (.int x5)], [], 0, 0) (I6, J, sm_rf 41 d)
        exact (G_VM_wars_55 hD (by decide) h hQ1 hQ2 hk30)
theorem G_VM_wars_30 {X : Nat × (Nat → Int32)} {t d D : Nat} {Q : sm_Q} {J : sm_MJ} {rz : (Int32 ⊕ Nat)} {Iz : sm_MI}
    (hD : 6 ≤ D) (ht : t = 21 ∨ t = 41) (hQ1 : ∀ v, rz = .inl v → Q (.inl (some (.int v))) (Iz, J, sm_rf t d)) (hQ2 : ∀ E, rz = .inr E → Q (.inr E) (Iz, J, sm_rf t d))  : ∀ (n : Nat) (x2 : Int32) (x3 : Int32) (x4 : Int32) (x5 : Int32) (I : sm_MI), F_VM_wars_30 t n x2 x3 x4 x5 I = some (rz, Iz) → sm_W sm_sh X (sm_C sm_sh X sm_P D) me_150 Q (30, [some (.ref 0), none, some (.int x2), some (.int x3), some (.int x4), some (.int x5)], [], 0, 0) (I, J, sm_rf t d) := by
  intro n
  induction n with
  | zero => intro x2 x3 x4 x5 I h; cases (show (none : Option ((Int32 ⊕ Nat) × sm_MI)) = some (rz, Iz) from h)
  | succ n ih => intro x2 x3 x4 x5 I h; exact G_VM_wars_30B hD ht (show F_VM_wars_30B t (F_VM_wars_30 t n) x2 x3 x4 x5 I = some (rz, Iz) from h) hQ1 hQ2  ih
theorem G_VM_wars {X : Nat × (Nat → Int32)} {t d D : Nat} {Q : sm_Q} {I : sm_MI} {J : sm_MJ} {x1 : Int32} {x2 : Int32} {x3 : Int32} {rz : (Int32 ⊕ Nat)} {Iz : sm_MI}
    (hD : 6 ≤ D) (ht : t = 21 ∨ t = 41) (h : F_VM_wars t x1 x2 x3 I = some (rz, Iz)) (hQ1 : ∀ v, rz = .inl v → Q (.inl (some (.int v))) (Iz, J, sm_rf t d)) (hQ2 : ∀ E, rz = .inr E → Q (.inr E) (Iz, J, sm_rf t d))  : sm_W sm_sh X (sm_C sm_sh X sm_P D) me_150 Q (0, [some (.ref 0), some (.int x1), some (.int x2), some (.int x3), none, none], [], 0, 0) (I, J, sm_rf t d) := by
  unfold F_VM_wars at h
  rcases ht with rfl | rfl
  · skip
    refine sm_W.run (sm_C_mono D) 2 (G := True) (fr' := (if decide (x3 < 0) = true then 5 else 2, [some (.ref 0), some (.int x1), some (.int x2), some (.int x3), none, none], [], 0, 0)) (M' := (I, J, sm_rf 21 d)) rfl trivial (sm_W.iteD h (fun hc h => ?_) (fun hc h => ?_))
    · cases h
      exact sm_W.thr (sm_C_mono D) rfl (hQ2 _ rfl)
    · refine sm_W.run (sm_C_mono D) 3 (G := True) (fr' := (if decide (x3 ≤ (2 : Int32)) = true then 10 else 5, [some (.ref 0), some (.int x1), some (.int x2), some (.int x3), none, none], [], 0, 0)) (M' := (I, J, sm_rf 21 d)) rfl trivial (sm_W.iteD h (fun hc h => ?_) (fun hc h => ?_))
      · refine sm_W.run (sm_C_mono D) 2 (G := True) (fr' := (if decide (x2 < 0) = true then 15 else 12, [some (.ref 0), some (.int x1), some (.int x2), some (.int x3), none, none], [], 0, 0)) (M' := (I, J, sm_rf 21 d)) rfl trivial (sm_W.iteD h (fun hc h => ?_) (fun hc h => ?_))
        · cases h
          exact sm_W.thr (sm_C_mono D) rfl (hQ2 _ rfl)
        · refine sm_W.run (sm_C_mono D) 3 (G := True) (fr' := (if decide (x2 ≤ (60 : Int32)) = true then 20 else 15, [some (.ref 0), some (.int x1), some (.int x2), some (.int x3), none, none], [], 0, 0)) (M' := (I, J, sm_rf 21 d)) rfl trivial (sm_W.iteD h (fun hc h => ?_) (fun hc h => ?_))
          · refine sm_W.run (sm_C_mono D) 5 (G := True) (fr' := (25, [some (.ref 0), some (.int x1), some (.int x2), some (.int x3), none, none], [.ref 9, .ref 20], 0, 0)) (M' := (I, J, sm_rf 21 d)) rfl trivial ?_
            obtain ⟨I1, hc, h⟩ := sd_q1_go h
            refine sm_W.cal (sm_C_mono D) (y := 58) (as := [.ref 20, .ref 9]) (fr' := (26, [some (.ref 0), some (.int x1), some (.int x2), some (.int x3), none, none], [], 0, 0)) rfl (T_State_copyFrom (by omega) (by decide) hc ?_)
            show sm_W sm_sh X (sm_C sm_sh X sm_P D) me_150 Q (26, [some (.ref 0), some (.int x1), some (.int x2), some (.int x3), none, none], [], 0, 0) (I1, J, sm_rf 21 d)
            refine sm_W.run (sm_C_mono D) 4 (G := True) (fr' := (30, [some (.ref 0), some (.int x1), some (.int x2), some (.int x3), some (.int x1), some (.int (0 : Int32))], [], 0, 0)) (M' := (I1, J, sm_rf 21 d)) rfl trivial ?_
            exact sm_W.forget (L' := [some (.ref 0), none, some (.int x2), some (.int x3), some (.int x1), some (.int (0 : Int32))]) ⟨rfl, ⟨rfl, ⟨rfl, ⟨rfl, ⟨rfl, trivial⟩⟩⟩⟩⟩ (G_VM_wars_30 hD (by decide) hQ1 hQ2 sd_fu _ _ _ _ _ h)
          · cases h
            exact sm_W.thr (sm_C_mono D) rfl (hQ2 _ rfl)
      · cases h
        exact sm_W.thr (sm_C_mono D) rfl (hQ2 _ rfl)
  · skip
    refine sm_W.run (sm_C_mono D) 2 (G := True) (fr' := (if decide (x3 < 0) = true then 5 else 2, [some (.ref 0), some (.int x1), some (.int x2), some (.int x3), none, none], [], 0, 0)) (M' := (I, J, sm_rf 41 d)) rfl trivial (sm_W.iteD h (fun hc h => ?_) (fun hc h => ?_))
    · cases h
      exact sm_W.thr (sm_C_mono D) rfl (hQ2 _ rfl)
    · refine sm_W.run (sm_C_mono D) 3 (G := True) (fr' := (if decide (x3 ≤ (2 : Int32)) = true then 10 else 5, [some (.ref 0), some (.int x1), some (.int x2), some (.int x3), none, none], [], 0, 0)) (M' := (I, J, sm_rf 41 d)) rfl trivial (sm_W.iteD h (fun hc h => ?_) (fun hc h => ?_))
      · refine sm_W.run (sm_C_mono D) 2 (G := True) (fr' := (if decide (x2 < 0) = true then 15 else 12, [some (.ref 0), some (.int x1), some (.int x2), some (.int x3), none, none], [], 0, 0)) (M' := (I, J, sm_rf 41 d)) rfl trivial (sm_W.iteD h (fun hc h => ?_) (fun hc h => ?_))
        · cases h
          exact sm_W.thr (sm_C_mono D) rfl (hQ2 _ rfl)
        · refine sm_W.run (sm_C_mono D) 3 (G := True) (fr' := (if decide (x2 ≤ (60 : Int32)) = true then 20 else 15, [some (.ref 0), some (.int x1), some (.int x2), some (.int x3), none, none], [], 0, 0)) (M' := (I, J, sm_rf 41 d)) rfl trivial (sm_W.iteD h (fun hc h => ?_) (fun hc h => ?_))
          · refine sm_W.run (sm_C_mono D) 5 (G := True) (fr' := (25, [some (.ref 0), some (.int x1), some (.int x2), some (.int x3), none, none], [.ref 9, .ref 20], 0, 0)) (M' := (I, J, sm_rf 41 d)) rfl trivial ?_
            obtain ⟨I1, hc, h⟩ := sd_q1_go h
            refine sm_W.cal (sm_C_mono D) (y := 58) (as := [.ref 20, .ref 9]) (fr' := (26, [some (.ref 0), some (.int x1), some (.int x2), some (.int x3), none, none], [], 0, 0)) rfl (T_State_copyFrom (by omega) (by decide) hc ?_)
            show sm_W sm_sh X (sm_C sm_sh X sm_P D) me_150 Q (26, [some (.ref 0), some (.int x1), some (.int x2), some (.int x3), none, none], [], 0, 0) (I1, J, sm_rf 41 d)
            refine sm_W.run (sm_C_mono D) 4 (G := True) (fr' := (30, [some (.ref 0), some (.int x1), some (.int x2), some (.int x3), some (.int x1), some (.int (0 : Int32))], [], 0, 0)) (M' := (I1, J, sm_rf 41 d)) rfl trivial ?_
            exact sm_W.forget (L' := [some (.ref 0), none, some (.int x2), some (.int x3), some (.int x1), some (.int (0 : Int32))]) ⟨rfl, ⟨rfl, ⟨rfl, ⟨rfl, ⟨rfl, trivial⟩⟩⟩⟩⟩ (G_VM_wars_30 hD (by decide) hQ1 hQ2 sd_fu _ _ _ _ _ h)
          · cases h
            exact sm_W.thr (sm_C_mono D) rfl (hQ2 _ rfl)
      · cases h
        exact sm_W.thr (sm_C_mono D) rfl (hQ2 _ rfl)
theorem T_VM_wars {X : Nat × (Nat → Int32)} {t d D : Nat} {Q : sm_Q} {I : sm_MI} {J : sm_MJ} {x1 : Int32} {x2 : Int32} {x3 : Int32} {rz : (Int32 ⊕ Nat)} {Iz : sm_MI}
    (hD : 7 ≤ D) (ht : t = 21 ∨ t = 41) (h : F_VM_wars t x1 x2 x3 I = some (rz, Iz)) (hQ1 : ∀ v, rz = .inl v → Q (.inl (some (.int v))) (Iz, J, sm_rf t d)) (hQ2 : ∀ E, rz = .inr E → Q (.inr E) (Iz, J, sm_rf t d)) : sm_C sm_sh X sm_P D 150 [.ref 0, .int x1, .int x2, .int x3] (I, J, sm_rf t d) Q := by
  cases D with
  | zero => omega
  | succ D => exact sm_C.of (me := me_150) (L := [some (.ref 0), some (.int x1), some (.int x2), some (.int x3), none, none]) rfl rfl rfl (sm_W.forget (L' := [some (.ref 0), some (.int x1), some (.int x2), some (.int x3), none, none]) ⟨rfl, ⟨rfl, ⟨rfl, ⟨rfl, trivial⟩⟩⟩⟩ (G_VM_wars (by omega) ht h hQ1 hQ2))
-- 157 Mo_thrown
noncomputable def F_Mo_thrown (I : sm_MI) : Option (Int32) :=
  some ((I 61 0))
theorem G_Mo_thrown {X : Nat × (Nat → Int32)} {t d D : Nat} {Q : sm_Q} {I : sm_MI} {J : sm_MJ} {rz : Int32}
    (hD : 0 ≤ D) (h : F_Mo_thrown I = some (rz)) (hQ : Q (.inl (some (.int rz))) (I, J, sm_rf t d))  : sm_W sm_sh X (sm_C sm_sh X sm_P D) me_157 Q (0, [some (.ref 61)], [], 0, 0) (I, J, sm_rf t d) := by
  unfold F_Mo_thrown at h
  refine sm_W.run (sm_C_mono D) 2 (G := True) (fr' := (2, [some (.ref 61)], [.int (I 61 0)], 0, 0)) (M' := (I, J, sm_rf t d)) rfl trivial ?_
  cases h
  exact sm_W.ret (sm_C_mono D) rfl hQ
theorem T_Mo_thrown {X : Nat × (Nat → Int32)} {t d D : Nat} {Q : sm_Q} {I : sm_MI} {J : sm_MJ} {rz : Int32}
    (hD : 1 ≤ D) (h : F_Mo_thrown I = some (rz)) (hQ : Q (.inl (some (.int rz))) (I, J, sm_rf t d)) : sm_C sm_sh X sm_P D 157 [.ref 61] (I, J, sm_rf t d) Q := by
  cases D with
  | zero => omega
  | succ D => exact sm_C.of (me := me_157) (L := [some (.ref 61)]) rfl rfl rfl (sm_W.forget (L' := [some (.ref 61)]) ⟨rfl, trivial⟩ (G_Mo_thrown (by omega) h hQ))
-- 158 Mo_right
noncomputable def F_Mo_right_8 (I : sm_MI) : Option (Int32 × sm_MI) :=
  if ¬ (I 61 0) = 0 then
    some ((0 : Int32), I)
  else
    some ((1 : Int32), I)
noncomputable def F_Mo_right (x1 : Int32) (x2 : Int32) (I : sm_MI) : Option (Int32 × sm_MI) :=
  if ¬ (I 61 0) = 0 then
    F_Mo_right_8 I
  else
    if ¬ x1 = 0 then
      F_Mo_right_8 I
    else
      sd_lt (sd_up I 61 0 x2) fun I1 =>
      F_Mo_right_8 I1
theorem G_Mo_right_8 {X : Nat × (Nat → Int32)} {t d D : Nat} {Q : sm_Q} {I : sm_MI} {J : sm_MJ} {rz : Int32} {Iz : sm_MI}
    (hD : 0 ≤ D) (h : F_Mo_right_8 I = some (rz, Iz)) (hQ : Q (.inl (some (.int rz))) (Iz, J, sm_rf t d))  : sm_W sm_sh X (sm_C sm_sh X sm_P D) me_158 Q (8, [some (.ref 61), none, none], [], 0, 0) (I, J, sm_rf t d) := by
  unfold F_Mo_right_8 at h
  refine sm_W.run (sm_C_mono D) 3 (G := True) (fr' := (if decide (¬ (I 61 0) = 0) = true then 13 else 11, [some (.ref 61), none, none], [], 0, 0)) (M' := (I, J, sm_rf t d)) rfl trivial (sm_W.iteD h (fun hc h => ?_) (fun hc h => ?_))
  · refine sm_W.run (sm_C_mono D) 1 (G := True) (fr' := (14, [some (.ref 61), none, none], [.int (0 : Int32)], 0, 0)) (M' := (I, J, sm_rf t d)) rfl trivial ?_
    cases h
    exact sm_W.ret (sm_C_mono D) rfl hQ
  · refine sm_W.run (sm_C_mono D) 2 (G := True) (fr' := (14, [some (.ref 61), none, none], [.int (1 : Int32)], 0, 0)) (M' := (I, J, sm_rf t d)) rfl trivial ?_
    cases h
    exact sm_W.ret (sm_C_mono D) rfl hQ
theorem G_Mo_right {X : Nat × (Nat → Int32)} {t d D : Nat} {Q : sm_Q} {I : sm_MI} {J : sm_MJ} {x1 : Int32} {x2 : Int32} {rz : Int32} {Iz : sm_MI}
    (hD : 0 ≤ D) (h : F_Mo_right x1 x2 I = some (rz, Iz)) (hQ : Q (.inl (some (.int rz))) (Iz, J, sm_rf t d))  : sm_W sm_sh X (sm_C sm_sh X sm_P D) me_158 Q (0, [some (.ref 61), some (.int x1), some (.int x2)], [], 0, 0) (I, J, sm_rf t d) := by
  unfold F_Mo_right at h
  refine sm_W.run (sm_C_mono D) 3 (G := True) (fr' := (if decide (¬ (I 61 0) = 0) = true then 8 else 3, [some (.ref 61), some (.int x1), some (.int x2)], [], 0, 0)) (M' := (I, J, sm_rf t d)) rfl trivial (sm_W.iteD h (fun hc h => ?_) (fun hc h => ?_))
  · exact sm_W.forget (L' := [some (.ref 61), none, none]) ⟨rfl, trivial⟩ (G_Mo_right_8 hD h hQ)
  · refine sm_W.run (sm_C_mono D) 2 (G := True) (fr' := (if decide (¬ x1 = 0) = true then 8 else 5, [some (.ref 61), some (.int x1), some (.int x2)], [], 0, 0)) (M' := (I, J, sm_rf t d)) rfl trivial (sm_W.iteD h (fun hc h => ?_) (fun hc h => ?_))
    · exact sm_W.forget (L' := [some (.ref 61), none, none]) ⟨rfl, trivial⟩ (G_Mo_right_8 hD h hQ)
    · refine sm_W.runL (sm_C_mono D) 3 (G := True) (e := (sd_up I 61 0 x2)) (fr' := fun _ => (8, [some (.ref 61), some (.int x1), some (.int x2)], [], 0, 0)) (M' := fun I1 => (I1, J, sm_rf t d)) rfl h trivial (fun I1 h => ?_)
      exact sm_W.forget (L' := [some (.ref 61), none, none]) ⟨rfl, trivial⟩ (G_Mo_right_8 hD h hQ)
theorem T_Mo_right {X : Nat × (Nat → Int32)} {t d D : Nat} {Q : sm_Q} {I : sm_MI} {J : sm_MJ} {x1 : Int32} {x2 : Int32} {rz : Int32} {Iz : sm_MI}
    (hD : 1 ≤ D) (h : F_Mo_right x1 x2 I = some (rz, Iz)) (hQ : Q (.inl (some (.int rz))) (Iz, J, sm_rf t d)) : sm_C sm_sh X sm_P D 158 [.ref 61, .int x1, .int x2] (I, J, sm_rf t d) Q := by
  cases D with
  | zero => omega
  | succ D => exact sm_C.of (me := me_158) (L := [some (.ref 61), some (.int x1), some (.int x2)]) rfl rfl rfl (sm_W.forget (L' := [some (.ref 61), some (.int x1), some (.int x2)]) ⟨rfl, ⟨rfl, ⟨rfl, trivial⟩⟩⟩ (G_Mo_right (by omega) h hQ))
-- 159 Mo_within
noncomputable def F_Mo_within (x0 : Int32) (x1 : Int32) (x2 : Int32) : Option (Int32) :=
  if x0 < x1 then
    some ((0 : Int32))
  else
    if x2 < x0 then
      some ((0 : Int32))
    else
      some ((1 : Int32))
theorem G_Mo_within {X : Nat × (Nat → Int32)} {t d D : Nat} {Q : sm_Q} {I : sm_MI} {J : sm_MJ} {x0 : Int32} {x1 : Int32} {x2 : Int32} {rz : Int32}
    (hD : 0 ≤ D) (h : F_Mo_within x0 x1 x2 = some (rz)) (hQ : Q (.inl (some (.int rz))) (I, J, sm_rf t d))  : sm_W sm_sh X (sm_C sm_sh X sm_P D) me_159 Q (0, [some (.int x0), some (.int x1), some (.int x2)], [], 0, 0) (I, J, sm_rf t d) := by
  unfold F_Mo_within at h
  refine sm_W.run (sm_C_mono D) 3 (G := True) (fr' := (if decide (x0 < x1) = true then 8 else 3, [some (.int x0), some (.int x1), some (.int x2)], [], 0, 0)) (M' := (I, J, sm_rf t d)) rfl trivial (sm_W.iteD h (fun hc h => ?_) (fun hc h => ?_))
  · refine sm_W.run (sm_C_mono D) 1 (G := True) (fr' := (9, [some (.int x0), some (.int x1), some (.int x2)], [.int (0 : Int32)], 0, 0)) (M' := (I, J, sm_rf t d)) rfl trivial ?_
    cases h
    exact sm_W.ret (sm_C_mono D) rfl hQ
  · refine sm_W.run (sm_C_mono D) 3 (G := True) (fr' := (if decide (x2 < x0) = true then 8 else 6, [some (.int x0), some (.int x1), some (.int x2)], [], 0, 0)) (M' := (I, J, sm_rf t d)) rfl trivial (sm_W.iteD h (fun hc h => ?_) (fun hc h => ?_))
    · refine sm_W.run (sm_C_mono D) 1 (G := True) (fr' := (9, [some (.int x0), some (.int x1), some (.int x2)], [.int (0 : Int32)], 0, 0)) (M' := (I, J, sm_rf t d)) rfl trivial ?_
      cases h
      exact sm_W.ret (sm_C_mono D) rfl hQ
    · refine sm_W.run (sm_C_mono D) 2 (G := True) (fr' := (9, [some (.int x0), some (.int x1), some (.int x2)], [.int (1 : Int32)], 0, 0)) (M' := (I, J, sm_rf t d)) rfl trivial ?_
      cases h
      exact sm_W.ret (sm_C_mono D) rfl hQ
theorem T_Mo_within {X : Nat × (Nat → Int32)} {t d D : Nat} {Q : sm_Q} {I : sm_MI} {J : sm_MJ} {x0 : Int32} {x1 : Int32} {x2 : Int32} {rz : Int32}
    (hD : 1 ≤ D) (h : F_Mo_within x0 x1 x2 = some (rz)) (hQ : Q (.inl (some (.int rz))) (I, J, sm_rf t d)) : sm_C sm_sh X sm_P D 159 [.int x0, .int x1, .int x2] (I, J, sm_rf t d) Q := by
  cases D with
  | zero => omega
  | succ D => exact sm_C.of (me := me_159) (L := [some (.int x0), some (.int x1), some (.int x2)]) rfl rfl rfl (sm_W.forget (L' := [some (.int x0), some (.int x1), some (.int x2)]) ⟨rfl, ⟨rfl, ⟨rfl, trivial⟩⟩⟩ (G_Mo_within (by omega) h hQ))
-- 160 Mo_copies
noncomputable def F_Mo_copies_2B (p1 : Nat) (p2 : Nat) (k2 : Int32 → sm_MI → Option (sm_MI)) (x3 : Int32) (I : sm_MI) : Option (sm_MI) :=
  if (Int32.ofNat (sd_n p1)) ≤ x3 then
    some (I)
  else
    sd_gu (sm_in x3 (sd_n p1) = true) <|
    sd_gu (sm_in x3 (sd_n p2) = true) <|
    sd_lt (sd_up I p2 (Int32.toNatClampNeg x3) (I p1 (Int32.toNatClampNeg x3))) fun I3 =>
    k2 (x3 + (1 : Int32)) I3
noncomputable def F_Mo_copies_2 (p1 : Nat) (p2 : Nat) (n : Nat) : Int32 → sm_MI → Option (sm_MI) :=
  sd_fix (fun k x3 I => F_Mo_copies_2B p1 p2 k x3 I) (fun _ _ => none) n
noncomputable def F_Mo_copies (p1 : Nat) (p2 : Nat) (I : sm_MI) : Option (sm_MI) :=
  F_Mo_copies_2 p1 p2 sd_fu (0 : Int32) I
theorem G_Mo_copies_2B {X : Nat × (Nat → Int32)} {t d D : Nat} {Q : sm_Q} {I : sm_MI} {J : sm_MJ} {p1 : Nat} {p2 : Nat} {k2 : Int32 → sm_MI → Option (sm_MI)} {x3 : Int32} {Iz : sm_MI}
    (hD : 0 ≤ D) (hp : (p1 = 74 ∧ p2 = 62) ∨ (p1 = 75 ∧ p2 = 63) ∨ (p1 = 76 ∧ p2 = 64) ∨ (p1 = 77 ∧ p2 = 65) ∨ (p1 = 78 ∧ p2 = 66) ∨ (p1 = 79 ∧ p2 = 67) ∨ (p1 = 80 ∧ p2 = 68) ∨ (p1 = 81 ∧ p2 = 69) ∨ (p1 = 82 ∧ p2 = 70) ∨ (p1 = 83 ∧ p2 = 71) ∨ (p1 = 86 ∧ p2 = 87) ∨ (p1 = 86 ∧ p2 = 93) ∨ (p1 = 88 ∧ p2 = 94) ∨ (p1 = 91 ∧ p2 = 95) ∨ (p1 = 93 ∧ p2 = 86) ∨ (p1 = 94 ∧ p2 = 88) ∨ (p1 = 95 ∧ p2 = 91)) (h : F_Mo_copies_2B p1 p2 k2 x3 I = some (Iz)) (hQ : Q (.inl none) (Iz, J, sm_rf t d)) (hk2 : ∀ (x3 : Int32) (I : sm_MI), k2 x3 I = some (Iz) → sm_W sm_sh X (sm_C sm_sh X sm_P D) me_160 Q (2, [none, some (.ref p1), some (.ref p2), some (.int x3)], [], 0, 0) (I, J, sm_rf t d)) : sm_W sm_sh X (sm_C sm_sh X sm_P D) me_160 Q (2, [none, some (.ref p1), some (.ref p2), some (.int x3)], [], 0, 0) (I, J, sm_rf t d) := by
  unfold F_Mo_copies_2B at h
  rcases hp with ⟨rfl, rfl⟩ | ⟨rfl, rfl⟩ | ⟨rfl, rfl⟩ | ⟨rfl, rfl⟩ | ⟨rfl, rfl⟩ | ⟨rfl, rfl⟩ | ⟨rfl, rfl⟩ | ⟨rfl, rfl⟩ | ⟨rfl, rfl⟩ | ⟨rfl, rfl⟩ | ⟨rfl, rfl⟩ | ⟨rfl, rfl⟩ | ⟨rfl, rfl⟩ | ⟨rfl, rfl⟩ | ⟨rfl, rfl⟩ | ⟨rfl, rfl⟩ | ⟨rfl, rfl⟩
  · skip
    refine sm_W.run (sm_C_mono D) 4 (G := True) (fr' := (if decide ((Int32.ofNat (sd_n 74)) ≤ x3) = true then 14 else 6, [none, some (.ref 74), some (.ref 62), some (.int x3)], [], 0, 0)) (M' := (I, J, sm_rf t d)) rfl trivial (sm_W.iteD h (fun hc h => ?_) (fun hc h => ?_))
    · cases h
      exact sm_W.ret (sm_C_mono D) rfl hQ
    · obtain ⟨g1, h⟩ := sd_gu_go h
      obtain ⟨g2, h⟩ := sd_gu_go h
      refine sm_W.runL (sm_C_mono D) 6 (G := sm_in x3 (sd_n 74) = true ∧ sm_in x3 (sd_n 62) = true ∧ True) (e := (sd_up I 62 (Int32.toNatClampNeg x3) (I 74 (Int32.toNatClampNeg x3)))) (fr' := fun _ => (12, [none, some (.ref 74), some (.ref 62), some (.int x3)], [], 0, 0)) (M' := fun I3 => (I3, J, sm_rf t d)) rfl h ⟨g1, g2, trivial⟩ (fun I3 h => ?_)
      refine sm_W.run (sm_C_mono D) 2 (G := True) (fr' := (2, [none, some (.ref 74), some (.ref 62), some (.int (x3 + (1 : Int32)))], [], 0, 0)) (M' := (I3, J, sm_rf t d)) rfl trivial ?_
      exact (hk2 _ _ h)
  · skip
    refine sm_W.run (sm_C_mono D) 4 (G := True) (fr' := (if decide ((Int32.ofNat (sd_n 75)) ≤ x3) = true then 14 else 6, [none, some (.ref 75), some (.ref 63), some (.int x3)], [], 0, 0)) (M' := (I, J, sm_rf t d)) rfl trivial (sm_W.iteD h (fun hc h => ?_) (fun hc h => ?_))
    · cases h
      exact sm_W.ret (sm_C_mono D) rfl hQ
    · obtain ⟨g1, h⟩ := sd_gu_go h
      obtain ⟨g2, h⟩ := sd_gu_go h
      refine sm_W.runL (sm_C_mono D) 6 (G := sm_in x3 (sd_n 75) = true ∧ sm_in x3 (sd_n 63) = true ∧ True) (e := (sd_up I 63 (Int32.toNatClampNeg x3) (I 75 (Int32.toNatClampNeg x3)))) (fr' := fun _ => (12, [none, some (.ref 75), some (.ref 63), some (.int x3)], [], 0, 0)) (M' := fun I3 => (I3, J, sm_rf t d)) rfl h ⟨g1, g2, trivial⟩ (fun I3 h => ?_)
      refine sm_W.run (sm_C_mono D) 2 (G := True) (fr' := (2, [none, some (.ref 75), some (.ref 63), some (.int (x3 + (1 : Int32)))], [], 0, 0)) (M' := (I3, J, sm_rf t d)) rfl trivial ?_
      exact (hk2 _ _ h)
  · skip
    refine sm_W.run (sm_C_mono D) 4 (G := True) (fr' := (if decide ((Int32.ofNat (sd_n 76)) ≤ x3) = true then 14 else 6, [none, some (.ref 76), some (.ref 64), some (.int x3)], [], 0, 0)) (M' := (I, J, sm_rf t d)) rfl trivial (sm_W.iteD h (fun hc h => ?_) (fun hc h => ?_))
    · cases h
      exact sm_W.ret (sm_C_mono D) rfl hQ
    · obtain ⟨g1, h⟩ := sd_gu_go h
      obtain ⟨g2, h⟩ := sd_gu_go h
      refine sm_W.runL (sm_C_mono D) 6 (G := sm_in x3 (sd_n 76) = true ∧ sm_in x3 (sd_n 64) = true ∧ True) (e := (sd_up I 64 (Int32.toNatClampNeg x3) (I 76 (Int32.toNatClampNeg x3)))) (fr' := fun _ => (12, [none, some (.ref 76), some (.ref 64), some (.int x3)], [], 0, 0)) (M' := fun I3 => (I3, J, sm_rf t d)) rfl h ⟨g1, g2, trivial⟩ (fun I3 h => ?_)
      refine sm_W.run (sm_C_mono D) 2 (G := True) (fr' := (2, [none, some (.ref 76), some (.ref 64), some (.int (x3 + (1 : Int32)))], [], 0, 0)) (M' := (I3, J, sm_rf t d)) rfl trivial ?_
      exact (hk2 _ _ h)
  · skip
    refine sm_W.run (sm_C_mono D) 4 (G := True) (fr' := (if decide ((Int32.ofNat (sd_n 77)) ≤ x3) = true then 14 else 6, [none, some (.ref 77), some (.ref 65), some (.int x3)], [], 0, 0)) (M' := (I, J, sm_rf t d)) rfl trivial (sm_W.iteD h (fun hc h => ?_) (fun hc h => ?_))
    · cases h
      exact sm_W.ret (sm_C_mono D) rfl hQ
    · obtain ⟨g1, h⟩ := sd_gu_go h
      obtain ⟨g2, h⟩ := sd_gu_go h
      refine sm_W.runL (sm_C_mono D) 6 (G := sm_in x3 (sd_n 77) = true ∧ sm_in x3 (sd_n 65) = true ∧ True) (e := (sd_up I 65 (Int32.toNatClampNeg x3) (I 77 (Int32.toNatClampNeg x3)))) (fr' := fun _ => (12, [none, some (.ref 77), some (.ref 65), some (.int x3)], [], 0, 0)) (M' := fun I3 => (I3, J, sm_rf t d)) rfl h ⟨g1, g2, trivial⟩ (fun I3 h => ?_)
      refine sm_W.run (sm_C_mono D) 2 (G := True) (fr' := (2, [none, some (.ref 77), some (.ref 65), some (.int (x3 + (1 : Int32)))], [], 0, 0)) (M' := (I3, J, sm_rf t d)) rfl trivial ?_
      exact (hk2 _ _ h)
  · skip
    refine sm_W.run (sm_C_mono D) 4 (G := True) (fr' := (if decide ((Int32.ofNat (sd_n 78)) ≤ x3) = true then 14 else 6, [none, some (.ref 78), some (.ref 66), some (.int x3)], [], 0, 0)) (M' := (I, J, sm_rf t d)) rfl trivial (sm_W.iteD h (fun hc h => ?_) (fun hc h => ?_))
    · cases h
      exact sm_W.ret (sm_C_mono D) rfl hQ
    · obtain ⟨g1, h⟩ := sd_gu_go h
      obtain ⟨g2, h⟩ := sd_gu_go h
      refine sm_W.runL (sm_C_mono D) 6 (G := sm_in x3 (sd_n 78) = true ∧ sm_in x3 (sd_n 66) = true ∧ True) (e := (sd_up I 66 (Int32.toNatClampNeg x3) (I 78 (Int32.toNatClampNeg x3)))) (fr' := fun _ => (12, [none, some (.ref 78), some (.ref 66), some (.int x3)], [], 0, 0)) (M' := fun I3 => (I3, J, sm_rf t d)) rfl h ⟨g1, g2, trivial⟩ (fun I3 h => ?_)
      refine sm_W.run (sm_C_mono D) 2 (G := True) (fr' := (2, [none, some (.ref 78), some (.ref 66), some (.int (x3 + (1 : Int32)))], [], 0, 0)) (M' := (I3, J, sm_rf t d)) rfl trivial ?_
      exact (hk2 _ _ h)
  · skip
    refine sm_W.run (sm_C_mono D) 4 (G := True) (fr' := (if decide ((Int32.ofNat (sd_n 79)) ≤ x3) = true then 14 else 6, [none, some (.ref 79), some (.ref 67), some (.int x3)], [], 0, 0)) (M' := (I, J, sm_rf t d)) rfl trivial (sm_W.iteD h (fun hc h => ?_) (fun hc h => ?_))
    · cases h
      exact sm_W.ret (sm_C_mono D) rfl hQ
    · obtain ⟨g1, h⟩ := sd_gu_go h
      obtain ⟨g2, h⟩ := sd_gu_go h
      refine sm_W.runL (sm_C_mono D) 6 (G := sm_in x3 (sd_n 79) = true ∧ sm_in x3 (sd_n 67) = true ∧ True) (e := (sd_up I 67 (Int32.toNatClampNeg x3) (I 79 (Int32.toNatClampNeg x3)))) (fr' := fun _ => (12, [none, some (.ref 79), some (.ref 67), some (.int x3)], [], 0, 0)) (M' := fun I3 => (I3, J, sm_rf t d)) rfl h ⟨g1, g2, trivial⟩ (fun I3 h => ?_)
      refine sm_W.run (sm_C_mono D) 2 (G := True) (fr' := (2, [none, some (.ref 79), some (.ref 67), some (.int (x3 + (1 : Int32)))], [], 0, 0)) (M' := (I3, J, sm_rf t d)) rfl trivial ?_
      exact (hk2 _ _ h)
  · skip
    refine sm_W.run (sm_C_mono D) 4 (G := True) (fr' := (if decide ((Int32.ofNat (sd_n 80)) ≤ x3) = true then 14 else 6, [none, some (.ref 80), some (.ref 68), some (.int x3)], [], 0, 0)) (M' := (I, J, sm_rf t d)) rfl trivial (sm_W.iteD h (fun hc h => ?_) (fun hc h => ?_))
    · cases h
      exact sm_W.ret (sm_C_mono D) rfl hQ
    · obtain ⟨g1, h⟩ := sd_gu_go h
      obtain ⟨g2, h⟩ := sd_gu_go h
      refine sm_W.runL (sm_C_mono D) 6 (G := sm_in x3 (sd_n 80) = true ∧ sm_in x3 (sd_n 68) = true ∧ True) (e := (sd_up I 68 (Int32.toNatClampNeg x3) (I 80 (Int32.toNatClampNeg x3)))) (fr' := fun _ => (12, [none, some (.ref 80), some (.ref 68), some (.int x3)], [], 0, 0)) (M' := fun I3 => (I3, J, sm_rf t d)) rfl h ⟨g1, g2, trivial⟩ (fun I3 h => ?_)
      refine sm_W.run (sm_C_mono D) 2 (G := True) (fr' := (2, [none, some (.ref 80), some (.ref 68), some (.int (x3 + (1 : Int32)))], [], 0, 0)) (M' := (I3, J, sm_rf t d)) rfl trivial ?_
      exact (hk2 _ _ h)
  · skip
    refine sm_W.run (sm_C_mono D) 4 (G := True) (fr' := (if decide ((Int32.ofNat (sd_n 81)) ≤ x3) = true then 14 else 6, [none, some (.ref 81), some (.ref 69), some (.int x3)], [], 0, 0)) (M' := (I, J, sm_rf t d)) rfl trivial (sm_W.iteD h (fun hc h => ?_) (fun hc h => ?_))
    · cases h
      exact sm_W.ret (sm_C_mono D) rfl hQ
    · obtain ⟨g1, h⟩ := sd_gu_go h
      obtain ⟨g2, h⟩ := sd_gu_go h
      refine sm_W.runL (sm_C_mono D) 6 (G := sm_in x3 (sd_n 81) = true ∧ sm_in x3 (sd_n 69) = true ∧ True) (e := (sd_up I 69 (Int32.toNatClampNeg x3) (I 81 (Int32.toNatClampNeg x3)))) (fr' := fun _ => (12, [none, some (.ref 81), some (.ref 69), some (.int x3)], [], 0, 0)) (M' := fun I3 => (I3, J, sm_rf t d)) rfl h ⟨g1, g2, trivial⟩ (fun I3 h => ?_)
      refine sm_W.run (sm_C_mono D) 2 (G := True) (fr' := (2, [none, some (.ref 81), some (.ref 69), some (.int (x3 + (1 : Int32)))], [], 0, 0)) (M' := (I3, J, sm_rf t d)) rfl trivial ?_
      exact (hk2 _ _ h)
  · skip
    refine sm_W.run (sm_C_mono D) 4 (G := True) (fr' := (if decide ((Int32.ofNat (sd_n 82)) ≤ x3) = true then 14 else 6, [none, some (.ref 82), some (.ref 70), some (.int x3)], [], 0, 0)) (M' := (I, J, sm_rf t d)) rfl trivial (sm_W.iteD h (fun hc h => ?_) (fun hc h => ?_))
    · cases h
      exact sm_W.ret (sm_C_mono D) rfl hQ
    · obtain ⟨g1, h⟩ := sd_gu_go h
      obtain ⟨g2, h⟩ := sd_gu_go h
      refine sm_W.runL (sm_C_mono D) 6 (G := sm_in x3 (sd_n 82) = true ∧ sm_in x3 (sd_n 70) = true ∧ True) (e := (sd_up I 70 (Int32.toNatClampNeg x3) (I 82 (Int32.toNatClampNeg x3)))) (fr' := fun _ => (12, [none, some (.ref 82), some (.ref 70), some (.int x3)], [], 0, 0)) (M' := fun I3 => (I3, J, sm_rf t d)) rfl h ⟨g1, g2, trivial⟩ (fun I3 h => ?_)
      refine sm_W.run (sm_C_mono D) 2 (G := True) (fr' := (2, [none, some (.ref 82), some (.ref 70), some (.int (x3 + (1 : Int32)))], [], 0, 0)) (M' := (I3, J, sm_rf t d)) rfl trivial ?_
      exact (hk2 _ _ h)
  · skip
    refine sm_W.run (sm_C_mono D) 4 (G := True) (fr' := (if decide ((Int32.ofNat (sd_n 83)) ≤ x3) = true then 14 else 6, [none, some (.ref 83), some (.ref 71), some (.int x3)], [], 0, 0)) (M' := (I, J, sm_rf t d)) rfl trivial (sm_W.iteD h (fun hc h => ?_) (fun hc h => ?_))
    · cases h
      exact sm_W.ret (sm_C_mono D) rfl hQ
    · obtain ⟨g1, h⟩ := sd_gu_go h
      obtain ⟨g2, h⟩ := sd_gu_go h
      refine sm_W.runL (sm_C_mono D) 6 (G := sm_in x3 (sd_n 83) = true ∧ sm_in x3 (sd_n 71) = true ∧ True) (e := (sd_up I 71 (Int32.toNatClampNeg x3) (I 83 (Int32.toNatClampNeg x3)))) (fr' := fun _ => (12, [none, some (.ref 83), some (.ref 71), some (.int x3)], [], 0, 0)) (M' := fun I3 => (I3, J, sm_rf t d)) rfl h ⟨g1, g2, trivial⟩ (fun I3 h => ?_)
      refine sm_W.run (sm_C_mono D) 2 (G := True) (fr' := (2, [none, some (.ref 83), some (.ref 71), some (.int (x3 + (1 : Int32)))], [], 0, 0)) (M' := (I3, J, sm_rf t d)) rfl trivial ?_
      exact (hk2 _ _ h)
  · skip
    refine sm_W.run (sm_C_mono D) 4 (G := True) (fr' := (if decide ((Int32.ofNat (sd_n 86)) ≤ x3) = true then 14 else 6, [none, some (.ref 86), some (.ref 87), some (.int x3)], [], 0, 0)) (M' := (I, J, sm_rf t d)) rfl trivial (sm_W.iteD h (fun hc h => ?_) (fun hc h => ?_))
    · cases h
      exact sm_W.ret (sm_C_mono D) rfl hQ
    · obtain ⟨g1, h⟩ := sd_gu_go h
      obtain ⟨g2, h⟩ := sd_gu_go h
      refine sm_W.runL (sm_C_mono D) 6 (G := sm_in x3 (sd_n 86) = true ∧ sm_in x3 (sd_n 87) = true ∧ True) (e := (sd_up I 87 (Int32.toNatClampNeg x3) (I 86 (Int32.toNatClampNeg x3)))) (fr' := fun _ => (12, [none, some (.ref 86), some (.ref 87), some (.int x3)], [], 0, 0)) (M' := fun I3 => (I3, J, sm_rf t d)) rfl h ⟨g1, g2, trivial⟩ (fun I3 h => ?_)
      refine sm_W.run (sm_C_mono D) 2 (G := True) (fr' := (2, [none, some (.ref 86), some (.ref 87), some (.int (x3 + (1 : Int32)))], [], 0, 0)) (M' := (I3, J, sm_rf t d)) rfl trivial ?_
      exact (hk2 _ _ h)
  · skip
    refine sm_W.run (sm_C_mono D) 4 (G := True) (fr' := (if decide ((Int32.ofNat (sd_n 86)) ≤ x3) = true then 14 else 6, [none, some (.ref 86), some (.ref 93), some (.int x3)], [], 0, 0)) (M' := (I, J, sm_rf t d)) rfl trivial (sm_W.iteD h (fun hc h => ?_) (fun hc h => ?_))
    · cases h
      exact sm_W.ret (sm_C_mono D) rfl hQ
    · obtain ⟨g1, h⟩ := sd_gu_go h
      obtain ⟨g2, h⟩ := sd_gu_go h
      refine sm_W.runL (sm_C_mono D) 6 (G := sm_in x3 (sd_n 86) = true ∧ sm_in x3 (sd_n 93) = true ∧ True) (e := (sd_up I 93 (Int32.toNatClampNeg x3) (I 86 (Int32.toNatClampNeg x3)))) (fr' := fun _ => (12, [none, some (.ref 86), some (.ref 93), some (.int x3)], [], 0, 0)) (M' := fun I3 => (I3, J, sm_rf t d)) rfl h ⟨g1, g2, trivial⟩ (fun I3 h => ?_)
      refine sm_W.run (sm_C_mono D) 2 (G := True) (fr' := (2, [none, some (.ref 86), some (.ref 93), some (.int (x3 + (1 : Int32)))], [], 0, 0)) (M' := (I3, J, sm_rf t d)) rfl trivial ?_
      exact (hk2 _ _ h)
  · skip
    refine sm_W.run (sm_C_mono D) 4 (G := True) (fr' := (if decide ((Int32.ofNat (sd_n 88)) ≤ x3) = true then 14 else 6, [none, some (.ref 88), some (.ref 94), some (.int x3)], [], 0, 0)) (M' := (I, J, sm_rf t d)) rfl trivial (sm_W.iteD h (fun hc h => ?_) (fun hc h => ?_))
    · cases h
      exact sm_W.ret (sm_C_mono D) rfl hQ
    · obtain ⟨g1, h⟩ := sd_gu_go h
      obtain ⟨g2, h⟩ := sd_gu_go h
      refine sm_W.runL (sm_C_mono D) 6 (G := sm_in x3 (sd_n 88) = true ∧ sm_in x3 (sd_n 94) = true ∧ True) (e := (sd_up I 94 (Int32.toNatClampNeg x3) (I 88 (Int32.toNatClampNeg x3)))) (fr' := fun _ => (12, [none, some (.ref 88), some (.ref 94), some (.int x3)], [], 0, 0)) (M' := fun I3 => (I3, J, sm_rf t d)) rfl h ⟨g1, g2, trivial⟩ (fun I3 h => ?_)
      refine sm_W.run (sm_C_mono D) 2 (G := True) (fr' := (2, [none, some (.ref 88), some (.ref 94), some (.int (x3 + (1 : Int32)))], [], 0, 0)) (M' := (I3, J, sm_rf t d)) rfl trivial ?_
      exact (hk2 _ _ h)
  · skip
    refine sm_W.run (sm_C_mono D) 4 (G := True) (fr' := (if decide ((Int32.ofNat (sd_n 91)) ≤ x3) = true then 14 else 6, [none, some (.ref 91), some (.ref 95), some (.int x3)], [], 0, 0)) (M' := (I, J, sm_rf t d)) rfl trivial (sm_W.iteD h (fun hc h => ?_) (fun hc h => ?_))
    · cases h
      exact sm_W.ret (sm_C_mono D) rfl hQ
    · obtain ⟨g1, h⟩ := sd_gu_go h
      obtain ⟨g2, h⟩ := sd_gu_go h
      refine sm_W.runL (sm_C_mono D) 6 (G := sm_in x3 (sd_n 91) = true ∧ sm_in x3 (sd_n 95) = true ∧ True) (e := (sd_up I 95 (Int32.toNatClampNeg x3) (I 91 (Int32.toNatClampNeg x3)))) (fr' := fun _ => (12, [none, some (.ref 91), some (.ref 95), some (.int x3)], [], 0, 0)) (M' := fun I3 => (I3, J, sm_rf t d)) rfl h ⟨g1, g2, trivial⟩ (fun I3 h => ?_)
      refine sm_W.run (sm_C_mono D) 2 (G := True) (fr' := (2, [none, some (.ref 91), some (.ref 95), some (.int (x3 + (1 : Int32)))], [], 0, 0)) (M' := (I3, J, sm_rf t d)) rfl trivial ?_
      exact (hk2 _ _ h)
  · skip
    refine sm_W.run (sm_C_mono D) 4 (G := True) (fr' := (if decide ((Int32.ofNat (sd_n 93)) ≤ x3) = true then 14 else 6, [none, some (.ref 93), some (.ref 86), some (.int x3)], [], 0, 0)) (M' := (I, J, sm_rf t d)) rfl trivial (sm_W.iteD h (fun hc h => ?_) (fun hc h => ?_))
    · cases h
      exact sm_W.ret (sm_C_mono D) rfl hQ
    · obtain ⟨g1, h⟩ := sd_gu_go h
      obtain ⟨g2, h⟩ := sd_gu_go h
      refine sm_W.runL (sm_C_mono D) 6 (G := sm_in x3 (sd_n 93) = true ∧ sm_in x3 (sd_n 86) = true ∧ True) (e := (sd_up I 86 (Int32.toNatClampNeg x3) (I 93 (Int32.toNatClampNeg x3)))) (fr' := fun _ => (12, [none, some (.ref 93), some (.ref 86), some (.int x3)], [], 0, 0)) (M' := fun I3 => (I3, J, sm_rf t d)) rfl h ⟨g1, g2, trivial⟩ (fun I3 h => ?_)
      refine sm_W.run (sm_C_mono D) 2 (G := True) (fr' := (2, [none, some (.ref 93), some (.ref 86), some (.int (x3 + (1 : Int32)))], [], 0, 0)) (M' := (I3, J, sm_rf t d)) rfl trivial ?_
      exact (hk2 _ _ h)
  · skip
    refine sm_W.run (sm_C_mono D) 4 (G := True) (fr' := (if decide ((Int32.ofNat (sd_n 94)) ≤ x3) = true then 14 else 6, [none, some (.ref 94), some (.ref 88), some (.int x3)], [], 0, 0)) (M' := (I, J, sm_rf t d)) rfl trivial (sm_W.iteD h (fun hc h => ?_) (fun hc h => ?_))
    · cases h
      exact sm_W.ret (sm_C_mono D) rfl hQ
    · obtain ⟨g1, h⟩ := sd_gu_go h
      obtain ⟨g2, h⟩ := sd_gu_go h
      refine sm_W.runL (sm_C_mono D) 6 (G := sm_in x3 (sd_n 94) = true ∧ sm_in x3 (sd_n 88) = true ∧ True) (e := (sd_up I 88 (Int32.toNatClampNeg x3) (I 94 (Int32.toNatClampNeg x3)))) (fr' := fun _ => (12, [none, some (.ref 94), some (.ref 88), some (.int x3)], [], 0, 0)) (M' := fun I3 => (I3, J, sm_rf t d)) rfl h ⟨g1, g2, trivial⟩ (fun I3 h => ?_)
      refine sm_W.run (sm_C_mono D) 2 (G := True) (fr' := (2, [none, some (.ref 94), some (.ref 88), some (.int (x3 + (1 : Int32)))], [], 0, 0)) (M' := (I3, J, sm_rf t d)) rfl trivial ?_
      exact (hk2 _ _ h)
  · skip
    refine sm_W.run (sm_C_mono D) 4 (G := True) (fr' := (if decide ((Int32.ofNat (sd_n 95)) ≤ x3) = true then 14 else 6, [none, some (.ref 95), some (.ref 91), some (.int x3)], [], 0, 0)) (M' := (I, J, sm_rf t d)) rfl trivial (sm_W.iteD h (fun hc h => ?_) (fun hc h => ?_))
    · cases h
      exact sm_W.ret (sm_C_mono D) rfl hQ
    · obtain ⟨g1, h⟩ := sd_gu_go h
      obtain ⟨g2, h⟩ := sd_gu_go h
      refine sm_W.runL (sm_C_mono D) 6 (G := sm_in x3 (sd_n 95) = true ∧ sm_in x3 (sd_n 91) = true ∧ True) (e := (sd_up I 91 (Int32.toNatClampNeg x3) (I 95 (Int32.toNatClampNeg x3)))) (fr' := fun _ => (12, [none, some (.ref 95), some (.ref 91), some (.int x3)], [], 0, 0)) (M' := fun I3 => (I3, J, sm_rf t d)) rfl h ⟨g1, g2, trivial⟩ (fun I3 h => ?_)
      refine sm_W.run (sm_C_mono D) 2 (G := True) (fr' := (2, [none, some (.ref 95), some (.ref 91), some (.int (x3 + (1 : Int32)))], [], 0, 0)) (M' := (I3, J, sm_rf t d)) rfl trivial ?_
      exact (hk2 _ _ h)
theorem G_Mo_copies_2 {X : Nat × (Nat → Int32)} {t d D : Nat} {Q : sm_Q} {J : sm_MJ} {p1 : Nat} {p2 : Nat} {Iz : sm_MI}
    (hD : 0 ≤ D) (hp : (p1 = 74 ∧ p2 = 62) ∨ (p1 = 75 ∧ p2 = 63) ∨ (p1 = 76 ∧ p2 = 64) ∨ (p1 = 77 ∧ p2 = 65) ∨ (p1 = 78 ∧ p2 = 66) ∨ (p1 = 79 ∧ p2 = 67) ∨ (p1 = 80 ∧ p2 = 68) ∨ (p1 = 81 ∧ p2 = 69) ∨ (p1 = 82 ∧ p2 = 70) ∨ (p1 = 83 ∧ p2 = 71) ∨ (p1 = 86 ∧ p2 = 87) ∨ (p1 = 86 ∧ p2 = 93) ∨ (p1 = 88 ∧ p2 = 94) ∨ (p1 = 91 ∧ p2 = 95) ∨ (p1 = 93 ∧ p2 = 86) ∨ (p1 = 94 ∧ p2 = 88) ∨ (p1 = 95 ∧ p2 = 91)) (hQ : Q (.inl none) (Iz, J, sm_rf t d))  : ∀ (n : Nat) (x3 : Int32) (I : sm_MI), F_Mo_copies_2 p1 p2 n x3 I = some (Iz) → sm_W sm_sh X (sm_C sm_sh X sm_P D) me_160 Q (2, [none, some (.ref p1), some (.ref p2), some (.int x3)], [], 0, 0) (I, J, sm_rf t d) := by
  intro n
  induction n with
  | zero => intro x3 I h; cases (show (none : Option (sm_MI)) = some (Iz) from h)
  | succ n ih => intro x3 I h; exact G_Mo_copies_2B hD hp (show F_Mo_copies_2B p1 p2 (F_Mo_copies_2 p1 p2 n) x3 I = some (Iz) from h) hQ  ih
theorem G_Mo_copies {X : Nat × (Nat → Int32)} {t d D : Nat} {Q : sm_Q} {I : sm_MI} {J : sm_MJ} {p1 : Nat} {p2 : Nat} {Iz : sm_MI}
    (hD : 0 ≤ D) (hp : (p1 = 74 ∧ p2 = 62) ∨ (p1 = 75 ∧ p2 = 63) ∨ (p1 = 76 ∧ p2 = 64) ∨ (p1 = 77 ∧ p2 = 65) ∨ (p1 = 78 ∧ p2 = 66) ∨ (p1 = 79 ∧ p2 = 67) ∨ (p1 = 80 ∧ p2 = 68) ∨ (p1 = 81 ∧ p2 = 69) ∨ (p1 = 82 ∧ p2 = 70) ∨ (p1 = 83 ∧ p2 = 71) ∨ (p1 = 86 ∧ p2 = 87) ∨ (p1 = 86 ∧ p2 = 93) ∨ (p1 = 88 ∧ p2 = 94) ∨ (p1 = 91 ∧ p2 = 95) ∨ (p1 = 93 ∧ p2 = 86) ∨ (p1 = 94 ∧ p2 = 88) ∨ (p1 = 95 ∧ p2 = 91)) (h : F_Mo_copies p1 p2 I = some (Iz)) (hQ : Q (.inl none) (Iz, J, sm_rf t d))  : sm_W sm_sh X (sm_C sm_sh X sm_P D) me_160 Q (0, [none, some (.ref p1), some (.ref p2), none], [], 0, 0) (I, J, sm_rf t d) := by
  unfold F_Mo_copies at h
  rcases hp with ⟨rfl, rfl⟩ | ⟨rfl, rfl⟩ | ⟨rfl, rfl⟩ | ⟨rfl, rfl⟩ | ⟨rfl, rfl⟩ | ⟨rfl, rfl⟩ | ⟨rfl, rfl⟩ | ⟨rfl, rfl⟩ | ⟨rfl, rfl⟩ | ⟨rfl, rfl⟩ | ⟨rfl, rfl⟩ | ⟨rfl, rfl⟩ | ⟨rfl, rfl⟩ | ⟨rfl, rfl⟩ | ⟨rfl, rfl⟩ | ⟨rfl, rfl⟩ | ⟨rfl, rfl⟩
  · skip
    refine sm_W.run (sm_C_mono D) 2 (G := True) (fr' := (2, [none, some (.ref 74), some (.ref 62), some (.int (0 : Int32))], [], 0, 0)) (M' := (I, J, sm_rf t d)) rfl trivial ?_
    exact (G_Mo_copies_2 hD (by decide) hQ sd_fu _ _ h)
  · skip
    refine sm_W.run (sm_C_mono D) 2 (G := True) (fr' := (2, [none, some (.ref 75), some (.ref 63), some (.int (0 : Int32))], [], 0, 0)) (M' := (I, J, sm_rf t d)) rfl trivial ?_
    exact (G_Mo_copies_2 hD (by decide) hQ sd_fu _ _ h)
  · skip
    refine sm_W.run (sm_C_mono D) 2 (G := True) (fr' := (2, [none, some (.ref 76), some (.ref 64), some (.int (0 : Int32))], [], 0, 0)) (M' := (I, J, sm_rf t d)) rfl trivial ?_
    exact (G_Mo_copies_2 hD (by decide) hQ sd_fu _ _ h)
  · skip
    refine sm_W.run (sm_C_mono D) 2 (G := True) (fr' := (2, [none, some (.ref 77), some (.ref 65), some (.int (0 : Int32))], [], 0, 0)) (M' := (I, J, sm_rf t d)) rfl trivial ?_
    exact (G_Mo_copies_2 hD (by decide) hQ sd_fu _ _ h)
  · skip
    refine sm_W.run (sm_C_mono D) 2 (G := True) (fr' := (2, [none, some (.ref 78), some (.ref 66), some (.int (0 : Int32))], [], 0, 0)) (M' := (I, J, sm_rf t d)) rfl trivial ?_
    exact (G_Mo_copies_2 hD (by decide) hQ sd_fu _ _ h)
  · skip
    refine sm_W.run (sm_C_mono D) 2 (G := True) (fr' := (2, [none, some (.ref 79), some (.ref 67), some (.int (0 : Int32))], [], 0, 0)) (M' := (I, J, sm_rf t d)) rfl trivial ?_
    exact (G_Mo_copies_2 hD (by decide) hQ sd_fu _ _ h)
  · skip
    refine sm_W.run (sm_C_mono D) 2 (G := True) (fr' := (2, [none, some (.ref 80), some (.ref 68), some (.int (0 : Int32))], [], 0, 0)) (M' := (I, J, sm_rf t d)) rfl trivial ?_
    exact (G_Mo_copies_2 hD (by decide) hQ sd_fu _ _ h)
  · skip
    refine sm_W.run (sm_C_mono D) 2 (G := True) (fr' := (2, [none, some (.ref 81), some (.ref 69), some (.int (0 : Int32))], [], 0, 0)) (M' := (I, J, sm_rf t d)) rfl trivial ?_
    exact (G_Mo_copies_2 hD (by decide) hQ sd_fu _ _ h)
  · skip
    refine sm_W.run (sm_C_mono D) 2 (G := True) (fr' := (2, [none, some (.ref 82), some (.ref 70), some (.int (0 : Int32))], [], 0, 0)) (M' := (I, J, sm_rf t d)) rfl trivial ?_
    exact (G_Mo_copies_2 hD (by decide) hQ sd_fu _ _ h)
  · skip
    refine sm_W.run (sm_C_mono D) 2 (G := True) (fr' := (2, [none, some (.ref 83), some (.ref 71), some (.int (0 : Int32))], [], 0, 0)) (M' := (I, J, sm_rf t d)) rfl trivial ?_
    exact (G_Mo_copies_2 hD (by decide) hQ sd_fu _ _ h)
  · skip
    refine sm_W.run (sm_C_mono D) 2 (G := True) (fr' := (2, [none, some (.ref 86), some (.ref 87), some (.int (0 : Int32))], [], 0, 0)) (M' := (I, J, sm_rf t d)) rfl trivial ?_
    exact (G_Mo_copies_2 hD (by decide) hQ sd_fu _ _ h)
  · skip
    refine sm_W.run (sm_C_mono D) 2 (G := True) (fr' := (2, [none, some (.ref 86), some (.ref 93), some (.int (0 : Int32))], [], 0, 0)) (M' := (I, J, sm_rf t d)) rfl trivial ?_
    exact (G_Mo_copies_2 hD (by decide) hQ sd_fu _ _ h)
  · skip
    refine sm_W.run (sm_C_mono D) 2 (G := True) (fr' := (2, [none, some (.ref 88), some (.ref 94), some (.int (0 : Int32))], [], 0, 0)) (M' := (I, J, sm_rf t d)) rfl trivial ?_
    exact (G_Mo_copies_2 hD (by decide) hQ sd_fu _ _ h)
  · skip
    refine sm_W.run (sm_C_mono D) 2 (G := True) (fr' := (2, [none, some (.ref 91), some (.ref 95), some (.int (0 : Int32))], [], 0, 0)) (M' := (I, J, sm_rf t d)) rfl trivial ?_
    exact (G_Mo_copies_2 hD (by decide) hQ sd_fu _ _ h)
  · skip
    refine sm_W.run (sm_C_mono D) 2 (G := True) (fr' := (2, [none, some (.ref 93), some (.ref 86), some (.int (0 : Int32))], [], 0, 0)) (M' := (I, J, sm_rf t d)) rfl trivial ?_
    exact (G_Mo_copies_2 hD (by decide) hQ sd_fu _ _ h)
  · skip
    refine sm_W.run (sm_C_mono D) 2 (G := True) (fr' := (2, [none, some (.ref 94), some (.ref 88), some (.int (0 : Int32))], [], 0, 0)) (M' := (I, J, sm_rf t d)) rfl trivial ?_
    exact (G_Mo_copies_2 hD (by decide) hQ sd_fu _ _ h)
  · skip
    refine sm_W.run (sm_C_mono D) 2 (G := True) (fr' := (2, [none, some (.ref 95), some (.ref 91), some (.int (0 : Int32))], [], 0, 0)) (M' := (I, J, sm_rf t d)) rfl trivial ?_
    exact (G_Mo_copies_2 hD (by decide) hQ sd_fu _ _ h)
theorem T_Mo_copies {X : Nat × (Nat → Int32)} {t d D : Nat} {Q : sm_Q} {I : sm_MI} {J : sm_MJ} {p1 : Nat} {p2 : Nat} {Iz : sm_MI}
    (hD : 1 ≤ D) (hp : (p1 = 74 ∧ p2 = 62) ∨ (p1 = 75 ∧ p2 = 63) ∨ (p1 = 76 ∧ p2 = 64) ∨ (p1 = 77 ∧ p2 = 65) ∨ (p1 = 78 ∧ p2 = 66) ∨ (p1 = 79 ∧ p2 = 67) ∨ (p1 = 80 ∧ p2 = 68) ∨ (p1 = 81 ∧ p2 = 69) ∨ (p1 = 82 ∧ p2 = 70) ∨ (p1 = 83 ∧ p2 = 71) ∨ (p1 = 86 ∧ p2 = 87) ∨ (p1 = 86 ∧ p2 = 93) ∨ (p1 = 88 ∧ p2 = 94) ∨ (p1 = 91 ∧ p2 = 95) ∨ (p1 = 93 ∧ p2 = 86) ∨ (p1 = 94 ∧ p2 = 88) ∨ (p1 = 95 ∧ p2 = 91)) (h : F_Mo_copies p1 p2 I = some (Iz)) (hQ : Q (.inl none) (Iz, J, sm_rf t d)) : sm_C sm_sh X sm_P D 160 [.ref 61, .ref p1, .ref p2] (I, J, sm_rf t d) Q := by
  cases D with
  | zero => omega
  | succ D => exact sm_C.of (me := me_160) (L := [some (.ref 61), some (.ref p1), some (.ref p2), none]) rfl rfl rfl (sm_W.forget (L' := [none, some (.ref p1), some (.ref p2), none]) ⟨rfl, ⟨rfl, trivial⟩⟩ (G_Mo_copies (by omega) hp h hQ))
-- 161 Mo_bits
noncomputable def F_Mo_bits_4B (k4 : Int32 → Int32 → Int32 → Option (Int32)) (x0 : Int32) (x1 : Int32) (x2 : Int32) : Option (Int32) :=
  if (14 : Int32) ≤ x2 then
    some (x1)
  else
    sd_lt (x1 + ((x0 >>> (x2 &&& 31)) &&& (1 : Int32))) fun a1 =>
    k4 x0 a1 (x2 + (1 : Int32))
noncomputable def F_Mo_bits_4  (n : Nat) : Int32 → Int32 → Int32 → Option (Int32) :=
  sd_fix (fun k x0 x1 x2 => F_Mo_bits_4B k x0 x1 x2) (fun _ _ _ => none) n
noncomputable def F_Mo_bits (x0 : Int32) : Option (Int32) :=
  F_Mo_bits_4 sd_fu x0 (0 : Int32) (0 : Int32)
theorem G_Mo_bits_4B {X : Nat × (Nat → Int32)} {t d D : Nat} {Q : sm_Q} {I : sm_MI} {J : sm_MJ} {k4 : Int32 → Int32 → Int32 → Option (Int32)} {x0 : Int32} {x1 : Int32} {x2 : Int32} {rz : Int32}
    (hD : 0 ≤ D) (h : F_Mo_bits_4B k4 x0 x1 x2 = some (rz)) (hQ : Q (.inl (some (.int rz))) (I, J, sm_rf t d)) (hk4 : ∀ (x0 : Int32) (x1 : Int32) (x2 : Int32), k4 x0 x1 x2 = some (rz) → sm_W sm_sh X (sm_C sm_sh X sm_P D) me_161 Q (4, [some (.int x0), some (.int x1), some (.int x2)], [], 0, 0) (I, J, sm_rf t d)) : sm_W sm_sh X (sm_C sm_sh X sm_P D) me_161 Q (4, [some (.int x0), some (.int x1), some (.int x2)], [], 0, 0) (I, J, sm_rf t d) := by
  unfold F_Mo_bits_4B at h
  refine sm_W.run (sm_C_mono D) 3 (G := True) (fr' := (if decide ((14 : Int32) ≤ x2) = true then 17 else 7, [some (.int x0), some (.int x1), some (.int x2)], [], 0, 0)) (M' := (I, J, sm_rf t d)) rfl trivial (sm_W.iteD h (fun hc h => ?_) (fun hc h => ?_))
  · refine sm_W.run (sm_C_mono D) 1 (G := True) (fr' := (18, [some (.int x0), some (.int x1), some (.int x2)], [.int x1], 0, 0)) (M' := (I, J, sm_rf t d)) rfl trivial ?_
    cases h
    exact sm_W.ret (sm_C_mono D) rfl hQ
  · refine sm_W.runL (sm_C_mono D) 8 (G := True) (e := (x1 + ((x0 >>> (x2 &&& 31)) &&& (1 : Int32)))) (fr' := fun a1 => (15, [some (.int x0), some (.int a1), some (.int x2)], [], 0, 0)) (M' := fun _ => (I, J, sm_rf t d)) rfl h trivial (fun a1 h => ?_)
    refine sm_W.run (sm_C_mono D) 2 (G := True) (fr' := (4, [some (.int x0), some (.int a1), some (.int (x2 + (1 : Int32)))], [], 0, 0)) (M' := (I, J, sm_rf t d)) rfl trivial ?_
    exact (hk4 _ _ _ h)
theorem G_Mo_bits_4 {X : Nat × (Nat → Int32)} {t d D : Nat} {Q : sm_Q} {I : sm_MI} {J : sm_MJ} {rz : Int32}
    (hD : 0 ≤ D) (hQ : Q (.inl (some (.int rz))) (I, J, sm_rf t d))  : ∀ (n : Nat) (x0 : Int32) (x1 : Int32) (x2 : Int32), F_Mo_bits_4 n x0 x1 x2 = some (rz) → sm_W sm_sh X (sm_C sm_sh X sm_P D) me_161 Q (4, [some (.int x0), some (.int x1), some (.int x2)], [], 0, 0) (I, J, sm_rf t d) := by
  intro n
  induction n with
  | zero => intro x0 x1 x2 h; cases (show (none : Option (Int32)) = some (rz) from h)
  | succ n ih => intro x0 x1 x2 h; exact G_Mo_bits_4B hD (show F_Mo_bits_4B (F_Mo_bits_4 n) x0 x1 x2 = some (rz) from h) hQ  ih
theorem G_Mo_bits {X : Nat × (Nat → Int32)} {t d D : Nat} {Q : sm_Q} {I : sm_MI} {J : sm_MJ} {x0 : Int32} {rz : Int32}
    (hD : 0 ≤ D) (h : F_Mo_bits x0 = some (rz)) (hQ : Q (.inl (some (.int rz))) (I, J, sm_rf t d))  : sm_W sm_sh X (sm_C sm_sh X sm_P D) me_161 Q (0, [some (.int x0), none, none], [], 0, 0) (I, J, sm_rf t d) := by
  unfold F_Mo_bits at h
  refine sm_W.run (sm_C_mono D) 4 (G := True) (fr' := (4, [some (.int x0), some (.int (0 : Int32)), some (.int (0 : Int32))], [], 0, 0)) (M' := (I, J, sm_rf t d)) rfl trivial ?_
  exact (G_Mo_bits_4 hD hQ sd_fu _ _ _ h)
theorem T_Mo_bits {X : Nat × (Nat → Int32)} {t d D : Nat} {Q : sm_Q} {I : sm_MI} {J : sm_MJ} {x0 : Int32} {rz : Int32}
    (hD : 1 ≤ D) (h : F_Mo_bits x0 = some (rz)) (hQ : Q (.inl (some (.int rz))) (I, J, sm_rf t d)) : sm_C sm_sh X sm_P D 161 [.int x0] (I, J, sm_rf t d) Q := by
  cases D with
  | zero => omega
  | succ D => exact sm_C.of (me := me_161) (L := [some (.int x0), none, none]) rfl rfl rfl (sm_W.forget (L' := [some (.int x0), none, none]) ⟨rfl, trivial⟩ (G_Mo_bits (by omega) h hQ))
-- 163 Mo_lays
noncomputable def F_Mo_lays_2B (k2 : Int32 → Int32 → sm_MI → Option (sm_MI)) (x1 : Int32) (x2 : Int32) (I : sm_MI) : Option (sm_MI) :=
  if x2 < 0 then
    some (I)
  else
    sd_gu (sm_in (I 61 15) 700 = true) <|
    sd_lt (sd_up I 72 (Int32.toNatClampNeg (I 61 15)) ((x1 >>> (x2 &&& 31)) &&& (255 : Int32))) fun I2 =>
    sd_lt (sd_up I2 61 15 ((I2 61 15) + (1 : Int32))) fun I3 =>
    k2 x1 (x2 + (-8 : Int32)) I3
noncomputable def F_Mo_lays_2  (n : Nat) : Int32 → Int32 → sm_MI → Option (sm_MI) :=
  sd_fix (fun k x1 x2 I => F_Mo_lays_2B k x1 x2 I) (fun _ _ _ => none) n
noncomputable def F_Mo_lays (x1 : Int32) (I : sm_MI) : Option (sm_MI) :=
  F_Mo_lays_2 sd_fu x1 (24 : Int32) I
theorem G_Mo_lays_2B {X : Nat × (Nat → Int32)} {t d D : Nat} {Q : sm_Q} {I : sm_MI} {J : sm_MJ} {k2 : Int32 → Int32 → sm_MI → Option (sm_MI)} {x1 : Int32} {x2 : Int32} {Iz : sm_MI}
    (hD : 0 ≤ D) (h : F_Mo_lays_2B k2 x1 x2 I = some (Iz)) (hQ : Q (.inl none) (Iz, J, sm_rf t d)) (hk2 : ∀ (x1 : Int32) (x2 : Int32) (I : sm_MI), k2 x1 x2 I = some (Iz) → sm_W sm_sh X (sm_C sm_sh X sm_P D) me_163 Q (2, [some (.ref 61), some (.int x1), some (.int x2)], [], 0, 0) (I, J, sm_rf t d)) : sm_W sm_sh X (sm_C sm_sh X sm_P D) me_163 Q (2, [some (.ref 61), some (.int x1), some (.int x2)], [], 0, 0) (I, J, sm_rf t d) := by
  unfold F_Mo_lays_2B at h
  refine sm_W.run (sm_C_mono D) 2 (G := True) (fr' := (if decide (x2 < 0) = true then 22 else 4, [some (.ref 61), some (.int x1), some (.int x2)], [], 0, 0)) (M' := (I, J, sm_rf t d)) rfl trivial (sm_W.iteD h (fun hc h => ?_) (fun hc h => ?_))
  · cases h
    exact sm_W.ret (sm_C_mono D) rfl hQ
  · obtain ⟨g1, h⟩ := sd_gu_go h
    refine sm_W.runL (sm_C_mono D) 10 (G := sm_in (I 61 15) 700 = true ∧ True) (e := (sd_up I 72 (Int32.toNatClampNeg (I 61 15)) ((x1 >>> (x2 &&& 31)) &&& (255 : Int32)))) (fr' := fun _ => (14, [some (.ref 61), some (.int x1), some (.int x2)], [], 0, 0)) (M' := fun I2 => (I2, J, sm_rf t d)) rfl h ⟨g1, trivial⟩ (fun I2 h => ?_)
    refine sm_W.runL (sm_C_mono D) 6 (G := True) (e := (sd_up I2 61 15 ((I2 61 15) + (1 : Int32)))) (fr' := fun _ => (20, [some (.ref 61), some (.int x1), some (.int x2)], [], 0, 0)) (M' := fun I3 => (I3, J, sm_rf t d)) rfl h trivial (fun I3 h => ?_)
    refine sm_W.run (sm_C_mono D) 2 (G := True) (fr' := (2, [some (.ref 61), some (.int x1), some (.int (x2 + (-8 : Int32)))], [], 0, 0)) (M' := (I3, J, sm_rf t d)) rfl trivial ?_
    exact (hk2 _ _ _ h)
theorem G_Mo_lays_2 {X : Nat × (Nat → Int32)} {t d D : Nat} {Q : sm_Q} {J : sm_MJ} {Iz : sm_MI}
    (hD : 0 ≤ D) (hQ : Q (.inl none) (Iz, J, sm_rf t d))  : ∀ (n : Nat) (x1 : Int32) (x2 : Int32) (I : sm_MI), F_Mo_lays_2 n x1 x2 I = some (Iz) → sm_W sm_sh X (sm_C sm_sh X sm_P D) me_163 Q (2, [some (.ref 61), some (.int x1), some (.int x2)], [], 0, 0) (I, J, sm_rf t d) := by
  intro n
  induction n with
  | zero => intro x1 x2 I h; cases (show (none : Option (sm_MI)) = some (Iz) from h)
  | succ n ih => intro x1 x2 I h; exact G_Mo_lays_2B hD (show F_Mo_lays_2B (F_Mo_lays_2 n) x1 x2 I = some (Iz) from h) hQ  ih
theorem G_Mo_lays {X : Nat × (Nat → Int32)} {t d D : Nat} {Q : sm_Q} {I : sm_MI} {J : sm_MJ} {x1 : Int32} {Iz : sm_MI}
    (hD : 0 ≤ D) (h : F_Mo_lays x1 I = some (Iz)) (hQ : Q (.inl none) (Iz, J, sm_rf t d))  : sm_W sm_sh X (sm_C sm_sh X sm_P D) me_163 Q (0, [some (.ref 61), some (.int x1), none], [], 0, 0) (I, J, sm_rf t d) := by
  unfold F_Mo_lays at h
  refine sm_W.run (sm_C_mono D) 2 (G := True) (fr' := (2, [some (.ref 61), some (.int x1), some (.int (24 : Int32))], [], 0, 0)) (M' := (I, J, sm_rf t d)) rfl trivial ?_
  exact (G_Mo_lays_2 hD hQ sd_fu _ _ _ h)
theorem T_Mo_lays {X : Nat × (Nat → Int32)} {t d D : Nat} {Q : sm_Q} {I : sm_MI} {J : sm_MJ} {x1 : Int32} {Iz : sm_MI}
    (hD : 1 ≤ D) (h : F_Mo_lays x1 I = some (Iz)) (hQ : Q (.inl none) (Iz, J, sm_rf t d)) : sm_C sm_sh X sm_P D 163 [.ref 61, .int x1] (I, J, sm_rf t d) Q := by
  cases D with
  | zero => omega
  | succ D => exact sm_C.of (me := me_163) (L := [some (.ref 61), some (.int x1), none]) rfl rfl rfl (sm_W.forget (L' := [some (.ref 61), some (.int x1), none]) ⟨rfl, ⟨rfl, trivial⟩⟩ (G_Mo_lays (by omega) h hQ))
-- 162 Mo_feed
noncomputable def F_Mo_feed (x1 : Int32) (x2 : Int32) (x3 : Int32) (x4 : Int32) (x5 : Int32) (I : sm_MI) : Option (Int32 × sm_MI) :=
  sd_lt (sd_up I 61 0 (0 : Int32)) fun I1 =>
  if ((I1 61 15) + (20 : Int32)) ≤ (700 : Int32) then
    sd_q1 (F_Mo_lays x1 I1) fun I2 =>
    sd_q1 (F_Mo_lays x2 I2) fun I3 =>
    sd_q1 (F_Mo_lays x3 I3) fun I4 =>
    sd_q1 (F_Mo_lays x4 I4) fun I5 =>
    sd_q1 (F_Mo_lays x5 I5) fun I6 =>
    some ((I6 61 15), I6)
  else
    some ((-1 : Int32), I1)
theorem G_Mo_feed {X : Nat × (Nat → Int32)} {t d D : Nat} {Q : sm_Q} {I : sm_MI} {J : sm_MJ} {x1 : Int32} {x2 : Int32} {x3 : Int32} {x4 : Int32} {x5 : Int32} {rz : Int32} {Iz : sm_MI}
    (hD : 1 ≤ D) (h : F_Mo_feed x1 x2 x3 x4 x5 I = some (rz, Iz)) (hQ : Q (.inl (some (.int rz))) (Iz, J, sm_rf t d))  : sm_W sm_sh X (sm_C sm_sh X sm_P D) me_162 Q (0, [some (.ref 61), some (.int x1), some (.int x2), some (.int x3), some (.int x4), some (.int x5)], [], 0, 0) (I, J, sm_rf t d) := by
  unfold F_Mo_feed at h
  refine sm_W.runL (sm_C_mono D) 3 (G := True) (e := (sd_up I 61 0 (0 : Int32))) (fr' := fun _ => (3, [some (.ref 61), some (.int x1), some (.int x2), some (.int x3), some (.int x4), some (.int x5)], [], 0, 0)) (M' := fun I1 => (I1, J, sm_rf t d)) rfl h trivial (fun I1 h => ?_)
  refine sm_W.run (sm_C_mono D) 6 (G := True) (fr' := (if decide (((I1 61 15) + (20 : Int32)) ≤ (700 : Int32)) = true then 11 else 9, [some (.ref 61), some (.int x1), some (.int x2), some (.int x3), some (.int x4), some (.int x5)], [], 0, 0)) (M' := (I1, J, sm_rf t d)) rfl trivial (sm_W.iteD h (fun hc h => ?_) (fun hc h => ?_))
  · refine sm_W.run (sm_C_mono D) 2 (G := True) (fr' := (13, [some (.ref 61), some (.int x1), some (.int x2), some (.int x3), some (.int x4), some (.int x5)], [.int x1, .ref 61], 0, 0)) (M' := (I1, J, sm_rf t d)) rfl trivial ?_
    obtain ⟨I2, hc, h⟩ := sd_q1_go h
    refine sm_W.cal (sm_C_mono D) (y := 163) (as := [.ref 61, .int x1]) (fr' := (14, [some (.ref 61), some (.int x1), some (.int x2), some (.int x3), some (.int x4), some (.int x5)], [], 0, 0)) rfl (T_Mo_lays (by omega) hc ?_)
    show sm_W sm_sh X (sm_C sm_sh X sm_P D) me_162 Q (14, [some (.ref 61), some (.int x1), some (.int x2), some (.int x3), some (.int x4), some (.int x5)], [], 0, 0) (I2, J, sm_rf t d)
    refine sm_W.run (sm_C_mono D) 2 (G := True) (fr' := (16, [some (.ref 61), some (.int x1), some (.int x2), some (.int x3), some (.int x4), some (.int x5)], [.int x2, .ref 61], 0, 0)) (M' := (I2, J, sm_rf t d)) rfl trivial ?_
    obtain ⟨I3, hc, h⟩ := sd_q1_go h
    refine sm_W.cal (sm_C_mono D) (y := 163) (as := [.ref 61, .int x2]) (fr' := (17, [some (.ref 61), some (.int x1), some (.int x2), some (.int x3), some (.int x4), some (.int x5)], [], 0, 0)) rfl (T_Mo_lays (by omega) hc ?_)
    show sm_W sm_sh X (sm_C sm_sh X sm_P D) me_162 Q (17, [some (.ref 61), some (.int x1), some (.int x2), some (.int x3), some (.int x4), some (.int x5)], [], 0, 0) (I3, J, sm_rf t d)
    refine sm_W.run (sm_C_mono D) 2 (G := True) (fr' := (19, [some (.ref 61), some (.int x1), some (.int x2), some (.int x3), some (.int x4), some (.int x5)], [.int x3, .ref 61], 0, 0)) (M' := (I3, J, sm_rf t d)) rfl trivial ?_
    obtain ⟨I4, hc, h⟩ := sd_q1_go h
    refine sm_W.cal (sm_C_mono D) (y := 163) (as := [.ref 61, .int x3]) (fr' := (20, [some (.ref 61), some (.int x1), some (.int x2), some (.int x3), some (.int x4), some (.int x5)], [], 0, 0)) rfl (T_Mo_lays (by omega) hc ?_)
    show sm_W sm_sh X (sm_C sm_sh X sm_P D) me_162 Q (20, [some (.ref 61), some (.int x1), some (.int x2), some (.int x3), some (.int x4), some (.int x5)], [], 0, 0) (I4, J, sm_rf t d)
    refine sm_W.run (sm_C_mono D) 2 (G := True) (fr' := (22, [some (.ref 61), some (.int x1), some (.int x2), some (.int x3), some (.int x4), some (.int x5)], [.int x4, .ref 61], 0, 0)) (M' := (I4, J, sm_rf t d)) rfl trivial ?_
    obtain ⟨I5, hc, h⟩ := sd_q1_go h
    refine sm_W.cal (sm_C_mono D) (y := 163) (as := [.ref 61, .int x4]) (fr' := (23, [some (.ref 61), some (.int x1), some (.int x2), some (.int x3), some (.int x4), some (.int x5)], [], 0, 0)) rfl (T_Mo_lays (by omega) hc ?_)
    show sm_W sm_sh X (sm_C sm_sh X sm_P D) me_162 Q (23, [some (.ref 61), some (.int x1), some (.int x2), some (.int x3), some (.int x4), some (.int x5)], [], 0, 0) (I5, J, sm_rf t d)
    refine sm_W.run (sm_C_mono D) 2 (G := True) (fr' := (25, [some (.ref 61), some (.int x1), some (.int x2), some (.int x3), some (.int x4), some (.int x5)], [.int x5, .ref 61], 0, 0)) (M' := (I5, J, sm_rf t d)) rfl trivial ?_
    obtain ⟨I6, hc, h⟩ := sd_q1_go h
    refine sm_W.cal (sm_C_mono D) (y := 163) (as := [.ref 61, .int x5]) (fr' := (26, [some (.ref 61), some (.int x1), some (.int x2), some (.int x3), some (.int x4), some (.int x5)], [], 0, 0)) rfl (T_Mo_lays (by omega) hc ?_)
    show sm_W sm_sh X (sm_C sm_sh X sm_P D) me_162 Q (26, [some (.ref 61), some (.int x1), some (.int x2), some (.int x3), some (.int x4), some (.int x5)], [], 0, 0) (I6, J, sm_rf t d)
    refine sm_W.run (sm_C_mono D) 2 (G := True) (fr' := (28, [some (.ref 61), some (.int x1), some (.int x2), some (.int x3), some (.int x4), some (.int x5)], [.int (I6 61 15)], 0, 0)) (M' := (I6, J, sm_rf t d)) rfl trivial ?_
    cases h
    exact sm_W.ret (sm_C_mono D) rfl hQ
  · refine sm_W.run (sm_C_mono D) 1 (G := True) (fr' := (10, [some (.ref 61), some (.int x1), some (.int x2), some (.int x3), some (.int x4), some (.int x5)], [.int (-1 : Int32)], 0, 0)) (M' := (I1, J, sm_rf t d)) rfl trivial ?_
    cases h
    exact sm_W.ret (sm_C_mono D) rfl hQ
theorem T_Mo_feed {X : Nat × (Nat → Int32)} {t d D : Nat} {Q : sm_Q} {I : sm_MI} {J : sm_MJ} {x1 : Int32} {x2 : Int32} {x3 : Int32} {x4 : Int32} {x5 : Int32} {rz : Int32} {Iz : sm_MI}
    (hD : 2 ≤ D) (h : F_Mo_feed x1 x2 x3 x4 x5 I = some (rz, Iz)) (hQ : Q (.inl (some (.int rz))) (Iz, J, sm_rf t d)) : sm_C sm_sh X sm_P D 162 [.ref 61, .int x1, .int x2, .int x3, .int x4, .int x5] (I, J, sm_rf t d) Q := by
  cases D with
  | zero => omega
  | succ D => exact sm_C.of (me := me_162) (L := [some (.ref 61), some (.int x1), some (.int x2), some (.int x3), some (.int x4), some (.int x5)]) rfl rfl rfl (sm_W.forget (L' := [some (.ref 61), some (.int x1), some (.int x2), some (.int x3), some (.int x4), some (.int x5)]) ⟨rfl, ⟨rfl, ⟨rfl, ⟨rfl, ⟨rfl, ⟨rfl, trivial⟩⟩⟩⟩⟩⟩ (G_Mo_feed (by omega) h hQ))
