/-! ===== printed by wip/gen/emit_parts.py: what the methods compute ===== -/
-- 42 Reader_readExpr
noncomputable def F_Reader_readExpr_32B (p1 : Nat) (kE : Nat → Int32 → sm_MI → Option (Int32 × sm_MI)) (k32 : Int32 → Int32 → Int32 → sm_MI → Option (Int32 × sm_MI)) (x2 : Int32) (x3 : Int32) (x4 : Int32) (I : sm_MI) : Option (Int32 × sm_MI) :=
  if (700 : Int32) ≤ x4 then
    some ((vp_nar .boolean x3), I)
  else
    if x3 = 0 then
      some ((vp_nar .boolean x3), I)
    else
      if ¬ (I 3 2) = (11 : Int32) then
        some ((vp_nar .boolean x3), I)
      else
        sd_q1 (F_Reader_step I) fun I1 =>
        sd_q2 (F_Reader_readAnd p1 kE x2 I1) fun r2 I3 =>
        sd_q1 (F_Rules_add p1 (20000 : Int32) I3) fun I4 =>
        k32 x2 r2 (x4 + (1 : Int32)) I4
noncomputable def F_Reader_readExpr_32 (p1 : Nat) (kE : Nat → Int32 → sm_MI → Option (Int32 × sm_MI)) (n : Nat) : Int32 → Int32 → Int32 → sm_MI → Option (Int32 × sm_MI) :=
  sd_fix (fun k x2 x3 x4 I => F_Reader_readExpr_32B p1 kE k x2 x3 x4 I) (fun _ _ _ _ => none) n
noncomputable def F_Reader_readExpr_23 (p1 : Nat) (kE : Nat → Int32 → sm_MI → Option (Int32 × sm_MI)) (s1 : Int32) (I : sm_MI) : Option (Int32 × sm_MI) :=
  sd_q2 (F_Reader_fail s1 I) fun r1 I2 =>
  some ((vp_nar .boolean r1), I2)
noncomputable def F_Reader_readExpr_16 (p1 : Nat) (kE : Nat → Int32 → sm_MI → Option (Int32 × sm_MI)) (s0 : Int32) (I : sm_MI) : Option (Int32 × sm_MI) :=
  if s0 = 0 then
    F_Reader_readExpr_23 p1 kE (1 : Int32) I
  else
    F_Reader_readExpr_23 p1 kE (2 : Int32) I
noncomputable def F_Reader_readExpr (p1 : Nat) (kE : Nat → Int32 → sm_MI → Option (Int32 × sm_MI)) (x2 : Int32) (I : sm_MI) : Option (Int32 × sm_MI) :=
  if x2 < (6 : Int32) then
    sd_q2 (F_Reader_readAnd p1 kE x2 I) fun r1 I2 =>
    F_Reader_readExpr_32 p1 kE sd_fu x2 r1 (0 : Int32) I2
  else
    sd_q1 (F_Reader_atNumber I) fun r3 =>
    if ¬ r3 = 0 then
      F_Reader_readExpr_16 p1 kE (1 : Int32) I
    else
      sd_q1 (F_Reader_atWord I) fun r4 =>
      if ¬ r4 = 0 then
        F_Reader_readExpr_16 p1 kE (1 : Int32) I
      else
        sd_q1 (F_Reader_atSign (40 : Int32) I) fun r5 =>
        if r5 = 0 then
          F_Reader_readExpr_16 p1 kE (0 : Int32) I
        else
          F_Reader_readExpr_16 p1 kE (1 : Int32) I
theorem G_Reader_readExpr_32B {X : Nat × (Nat → Int32)} {t d D DE : Nat} {Q : sm_Q} {I : sm_MI} {J : sm_MJ} {p1 : Nat} {kE : Nat → Int32 → sm_MI → Option (Int32 × sm_MI)} {k32 : Int32 → Int32 → Int32 → sm_MI → Option (Int32 × sm_MI)} {x2 : Int32} {x3 : Int32} {x4 : Int32} {rz : Int32} {Iz : sm_MI}
    (hD : 9 ≤ D) (hp : (p1 = 35) ∨ (p1 = 55)) (hE : ∀ (r : Nat) (x : Int32) (I : sm_MI) (v : Int32) (I9 : sm_MI) (Q : sm_Q), (r = 35 ∨ r = 55) → kE r x I = some (v, I9) → Q (.inl (some (.int v))) (I9, J, sm_rf t d) → sm_C sm_sh X sm_P DE 42 [.ref 3, .ref r, .int x] (I, J, sm_rf t d) Q) (hDE : DE + 6 ≤ D) (h : F_Reader_readExpr_32B p1 kE k32 x2 x3 x4 I = some (rz, Iz)) (hQ : Q (.inl (some (.int rz))) (Iz, J, sm_rf t d)) (hk32 : ∀ (x2 : Int32) (x3 : Int32) (x4 : Int32) (I : sm_MI), k32 x2 x3 x4 I = some (rz, Iz) → sm_W sm_sh X (sm_C sm_sh X sm_P D) me_42 Q (32, [some (.ref 3), some (.ref p1), some (.int x2), some (.int x3), some (.int x4)], [], 0, 0) (I, J, sm_rf t d)) : sm_W sm_sh X (sm_C sm_sh X sm_P D) me_42 Q (32, [some (.ref 3), some (.ref p1), some (.int x2), some (.int x3), some (.int x4)], [], 0, 0) (I, J, sm_rf t d) := by
  unfold F_Reader_readExpr_32B at h
  rcases hp with rfl | rfl
  · skip
    refine sm_W.run (sm_C_mono D) 3 (G := True) (fr' := (if decide ((700 : Int32) ≤ x4) = true then 53 else 35, [some (.ref 3), some (.ref 35), some (.int x2), some (.int x3), some (.int x4)], [], 0, 0)) (M' := (I, J, sm_rf t d)) rfl trivial (sm_W.iteD h (fun hc h => ?_) (fun hc h => ?_))
    · refine sm_W.run (sm_C_mono D) 1 (G := True) (fr' := (54, [some (.ref 3), some (.ref 35), some (.int x2), some (.int x3), some (.int x4)], [.int x3], 0, 0)) (M' := (I, J, sm_rf t d)) rfl trivial ?_
      cases h
      exact sm_W.ret (sm_C_mono D) rfl hQ
    · refine sm_W.run (sm_C_mono D) 2 (G := True) (fr' := (if decide (x3 = 0) = true then 53 else 37, [some (.ref 3), some (.ref 35), some (.int x2), some (.int x3), some (.int x4)], [], 0, 0)) (M' := (I, J, sm_rf t d)) rfl trivial (sm_W.iteD h (fun hc h => ?_) (fun hc h => ?_))
      · refine sm_W.run (sm_C_mono D) 1 (G := True) (fr' := (54, [some (.ref 3), some (.ref 35), some (.int x2), some (.int x3), some (.int x4)], [.int x3], 0, 0)) (M' := (I, J, sm_rf t d)) rfl trivial ?_
        cases h
        exact sm_W.ret (sm_C_mono D) rfl hQ
      · refine sm_W.run (sm_C_mono D) 4 (G := True) (fr' := (if decide (¬ (I 3 2) = (11 : Int32)) = true then 53 else 41, [some (.ref 3), some (.ref 35), some (.int x2), some (.int x3), some (.int x4)], [], 0, 0)) (M' := (I, J, sm_rf t d)) rfl trivial (sm_W.iteD h (fun hc h => ?_) (fun hc h => ?_))
        · refine sm_W.run (sm_C_mono D) 1 (G := True) (fr' := (54, [some (.ref 3), some (.ref 35), some (.int x2), some (.int x3), some (.int x4)], [.int x3], 0, 0)) (M' := (I, J, sm_rf t d)) rfl trivial ?_
          cases h
          exact sm_W.ret (sm_C_mono D) rfl hQ
        · refine sm_W.run (sm_C_mono D) 1 (G := True) (fr' := (42, [some (.ref 3), some (.ref 35), some (.int x2), some (.int x3), some (.int x4)], [.ref 3], 0, 0)) (M' := (I, J, sm_rf t d)) rfl trivial ?_
          obtain ⟨I1, hc, h⟩ := sd_q1_go h
          refine sm_W.cal (sm_C_mono D) (y := 29) (as := [.ref 3]) (fr' := (43, [some (.ref 3), some (.ref 35), some (.int x2), some (.int x3), some (.int x4)], [], 0, 0)) rfl (T_Reader_step (by omega) hc ?_)
          show sm_W sm_sh X (sm_C sm_sh X sm_P D) me_42 Q (43, [some (.ref 3), some (.ref 35), some (.int x2), some (.int x3), some (.int x4)], [], 0, 0) (I1, J, sm_rf t d)
          refine sm_W.run (sm_C_mono D) 3 (G := True) (fr' := (46, [some (.ref 3), some (.ref 35), some (.int x2), some (.int x3), some (.int x4)], [.int x2, .ref 35, .ref 3], 0, 0)) (M' := (I1, J, sm_rf t d)) rfl trivial ?_
          obtain ⟨r2, I3, hc, h⟩ := sd_q2_go h
          refine sm_W.cal (sm_C_mono D) (y := 43) (as := [.ref 3, .ref 35, .int x2]) (fr' := (47, [some (.ref 3), some (.ref 35), some (.int x2), some (.int x3), some (.int x4)], [], 0, 0)) rfl (T_Reader_readAnd (by omega) (by decide) hE (by omega) hc ?_)
          show sm_W sm_sh X (sm_C sm_sh X sm_P D) me_42 Q (47, [some (.ref 3), some (.ref 35), some (.int x2), some (.int x3), some (.int x4)], [.int r2], 0, 0) (I3, J, sm_rf t d)
          refine sm_W.run (sm_C_mono D) 3 (G := True) (fr' := (50, [some (.ref 3), some (.ref 35), some (.int x2), some (.int r2), some (.int x4)], [.int (20000 : Int32), .ref 35], 0, 0)) (M' := (I3, J, sm_rf t d)) rfl trivial ?_
          obtain ⟨I4, hc, h⟩ := sd_q1_go h
          refine sm_W.cal (sm_C_mono D) (y := 52) (as := [.ref 35, .int (20000 : Int32)]) (fr' := (51, [some (.ref 3), some (.ref 35), some (.int x2), some (.int r2), some (.int x4)], [], 0, 0)) rfl (T_Rules_add (by omega) (by decide) hc ?_)
          show sm_W sm_sh X (sm_C sm_sh X sm_P D) me_42 Q (51, [some (.ref 3), some (.ref 35), some (.int x2), some (.int r2), some (.int x4)], [], 0, 0) (I4, J, sm_rf t d)
          refine sm_W.run (sm_C_mono D) 2 (G := True) (fr' := (32, [some (.ref 3), some (.ref 35), some (.int x2), some (.int r2), some (.int (x4 + (1 : Int32)))], [], 0, 0)) (M' := (I4, J, sm_rf t d)) rfl trivial ?_
          exact (hk32 _ _ _ _ h)
  · skip
    refine sm_W.run (sm_C_mono D) 3 (G := True) (fr' := (if decide ((700 : Int32) ≤ x4) = true then 53 else 35, [some (.ref 3), some (.ref 55), some (.int x2), some (.int x3), some (.int x4)], [], 0, 0)) (M' := (I, J, sm_rf t d)) rfl trivial (sm_W.iteD h (fun hc h => ?_) (fun hc h => ?_))
    · refine sm_W.run (sm_C_mono D) 1 (G := True) (fr' := (54, [some (.ref 3), some (.ref 55), some (.int x2), some (.int x3), some (.int x4)], [.int x3], 0, 0)) (M' := (I, J, sm_rf t d)) rfl trivial ?_
      cases h
      exact sm_W.ret (sm_C_mono D) rfl hQ
    · refine sm_W.run (sm_C_mono D) 2 (G := True) (fr' := (if decide (x3 = 0) = true then 53 else 37, [some (.ref 3), some (.ref 55), some (.int x2), some (.int x3), some (.int x4)], [], 0, 0)) (M' := (I, J, sm_rf t d)) rfl trivial (sm_W.iteD h (fun hc h => ?_) (fun hc h => ?_))
      · refine sm_W.run (sm_C_mono D) 1 (G := True) (fr' := (54, [some (.ref 3), some (.ref 55), some (.int x2), some (.int x3), some (.int x4)], [.int x3], 0, 0)) (M' := (I, J, sm_rf t d)) rfl trivial ?_
        cases h
        exact sm_W.ret (sm_C_mono D) rfl hQ
      · refine sm_W.run (sm_C_mono D) 4 (G := True) (fr' := (if decide (¬ (I 3 2) = (11 : Int32)) = true then 53 else 41, [some (.ref 3), some (.ref 55), some (.int x2), some (.int x3), some (.int x4)], [], 0, 0)) (M' := (I, J, sm_rf t d)) rfl trivial (sm_W.iteD h (fun hc h => ?_) (fun hc h => ?_))
        · refine sm_W.run (sm_C_mono D) 1 (G := True) (fr' := (54, [some (.ref 3), some (.ref 55), some (.int x2), some (.int x3), some (.int x4)], [.int x3], 0, 0)) (M' := (I, J, sm_rf t d)) rfl trivial ?_
          cases h
          exact sm_W.ret (sm_C_mono D) rfl hQ
        · refine sm_W.run (sm_C_mono D) 1 (G := True) (fr' := (42, [some (.ref 3), some (.ref 55), some (.int x2), some (.int x3), some (.int x4)], [.ref 3], 0, 0)) (M' := (I, J, sm_rf t d)) rfl trivial ?_
          obtain ⟨I1, hc, h⟩ := sd_q1_go h
          refine sm_W.cal (sm_C_mono D) (y := 29) (as := [.ref 3]) (fr' := (43, [some (.ref 3), some (.ref 55), some (.int x2), some (.int x3), some (.int x4)], [], 0, 0)) rfl (T_Reader_step (by omega) hc ?_)
          show sm_W sm_sh X (sm_C sm_sh X sm_P D) me_42 Q (43, [some (.ref 3), some (.ref 55), some (.int x2), some (.int x3), some (.int x4)], [], 0, 0) (I1, J, sm_rf t d)
          refine sm_W.run (sm_C_mono D) 3 (G := True) (fr' := (46, [some (.ref 3), some (.ref 55), some (.int x2), some (.int x3), some (.int x4)], [.int x2, .ref 55, .ref 3], 0, 0)) (M' := (I1, J, sm_rf t d)) rfl trivial ?_
          obtain ⟨r2, I3, hc, h⟩ := sd_q2_go h
          refine sm_W.cal (sm_C_mono D) (y := 43) (as := [.ref 3, .ref 55, .int x2]) (fr' := (47, [some (.ref 3), some (.ref 55), some (.int x2), some (.int x3), some (.int x4)], [], 0, 0)) rfl (T_Reader_readAnd (by omega) (by decide) hE (by omega) hc ?_)
          show sm_W sm_sh X (sm_C sm_sh X sm_P D) me_42 Q (47, [some (.ref 3), some (.ref 55), some (.int x2), some (.int x3), some (.int x4)], [.int r2], 0, 0) (I3, J, sm_rf t d)
          refine sm_W.run (sm_C_mono D) 3 (G := True) (fr' := (50, [some (.ref 3), some (.ref 55), some (.int x2), some (.int r2), some (.int x4)], [.int (20000 : Int32), .ref 55], 0, 0)) (M' := (I3, J, sm_rf t d)) rfl trivial ?_
          obtain ⟨I4, hc, h⟩ := sd_q1_go h
          refine sm_W.cal (sm_C_mono D) (y := 52) (as := [.ref 55, .int (20000 : Int32)]) (fr' := (51, [some (.ref 3), some (.ref 55), some (.int x2), some (.int r2), some (.int x4)], [], 0, 0)) rfl (T_Rules_add (by omega) (by decide) hc ?_)
          show sm_W sm_sh X (sm_C sm_sh X sm_P D) me_42 Q (51, [some (.ref 3), some (.ref 55), some (.int x2), some (.int r2), some (.int x4)], [], 0, 0) (I4, J, sm_rf t d)
          refine sm_W.run (sm_C_mono D) 2 (G := True) (fr' := (32, [some (.ref 3), some (.ref 55), some (.int x2), some (.int r2), some (.int (x4 + (1 : Int32)))], [], 0, 0)) (M' := (I4, J, sm_rf t d)) rfl trivial ?_
          exact (hk32 _ _ _ _ h)
theorem G_Reader_readExpr_32 {X : Nat × (Nat → Int32)} {t d D DE : Nat} {Q : sm_Q} {J : sm_MJ} {p1 : Nat} {kE : Nat → Int32 → sm_MI → Option (Int32 × sm_MI)} {rz : Int32} {Iz : sm_MI}
    (hD : 9 ≤ D) (hp : (p1 = 35) ∨ (p1 = 55)) (hE : ∀ (r : Nat) (x : Int32) (I : sm_MI) (v : Int32) (I9 : sm_MI) (Q : sm_Q), (r = 35 ∨ r = 55) → kE r x I = some (v, I9) → Q (.inl (some (.int v))) (I9, J, sm_rf t d) → sm_C sm_sh X sm_P DE 42 [.ref 3, .ref r, .int x] (I, J, sm_rf t d) Q) (hDE : DE + 6 ≤ D) (hQ : Q (.inl (some (.int rz))) (Iz, J, sm_rf t d))  : ∀ (n : Nat) (x2 : Int32) (x3 : Int32) (x4 : Int32) (I : sm_MI), F_Reader_readExpr_32 p1 kE n x2 x3 x4 I = some (rz, Iz) → sm_W sm_sh X (sm_C sm_sh X sm_P D) me_42 Q (32, [some (.ref 3), some (.ref p1), some (.int x2), some (.int x3), some (.int x4)], [], 0, 0) (I, J, sm_rf t d) := by
  intro n
  induction n with
  | zero => intro x2 x3 x4 I h; cases (show (none : Option (Int32 × sm_MI)) = some (rz, Iz) from h)
  | succ n ih => intro x2 x3 x4 I h; exact G_Reader_readExpr_32B hD hp hE hDE (show F_Reader_readExpr_32B p1 kE (F_Reader_readExpr_32 p1 kE n) x2 x3 x4 I = some (rz, Iz) from h) hQ  ih
theorem G_Reader_readExpr_23 {X : Nat × (Nat → Int32)} {t d D DE : Nat} {Q : sm_Q} {I : sm_MI} {J : sm_MJ} {p1 : Nat} {kE : Nat → Int32 → sm_MI → Option (Int32 × sm_MI)} {s1 : Int32} {rz : Int32} {Iz : sm_MI}
    (hD : 9 ≤ D) (hp : (p1 = 35) ∨ (p1 = 55)) (hE : ∀ (r : Nat) (x : Int32) (I : sm_MI) (v : Int32) (I9 : sm_MI) (Q : sm_Q), (r = 35 ∨ r = 55) → kE r x I = some (v, I9) → Q (.inl (some (.int v))) (I9, J, sm_rf t d) → sm_C sm_sh X sm_P DE 42 [.ref 3, .ref r, .int x] (I, J, sm_rf t d) Q) (hDE : DE + 6 ≤ D) (h : F_Reader_readExpr_23 p1 kE s1 I = some (rz, Iz)) (hQ : Q (.inl (some (.int rz))) (Iz, J, sm_rf t d))  : sm_W sm_sh X (sm_C sm_sh X sm_P D) me_42 Q (23, [none, none, none, none, none], [.int s1, .ref 3], 0, 0) (I, J, sm_rf t d) := by
  unfold F_Reader_readExpr_23 at h
  rcases hp with rfl | rfl
  · skip
    obtain ⟨r1, I2, hc, h⟩ := sd_q2_go h
    refine sm_W.cal (sm_C_mono D) (y := 28) (as := [.ref 3, .int s1]) (fr' := (24, [none, none, none, none, none], [], 0, 0)) rfl (T_Reader_fail (by omega) hc ?_)
    show sm_W sm_sh X (sm_C sm_sh X sm_P D) me_42 Q (24, [none, none, none, none, none], [.int r1], 0, 0) (I2, J, sm_rf t d)
    cases h
    exact sm_W.ret (sm_C_mono D) rfl hQ
  · skip
    obtain ⟨r1, I2, hc, h⟩ := sd_q2_go h
    refine sm_W.cal (sm_C_mono D) (y := 28) (as := [.ref 3, .int s1]) (fr' := (24, [none, none, none, none, none], [], 0, 0)) rfl (T_Reader_fail (by omega) hc ?_)
    show sm_W sm_sh X (sm_C sm_sh X sm_P D) me_42 Q (24, [none, none, none, none, none], [.int r1], 0, 0) (I2, J, sm_rf t d)
    cases h
    exact sm_W.ret (sm_C_mono D) rfl hQ
theorem G_Reader_readExpr_16 {X : Nat × (Nat → Int32)} {t d D DE : Nat} {Q : sm_Q} {I : sm_MI} {J : sm_MJ} {p1 : Nat} {kE : Nat → Int32 → sm_MI → Option (Int32 × sm_MI)} {s0 : Int32} {rz : Int32} {Iz : sm_MI}
    (hD : 9 ≤ D) (hp : (p1 = 35) ∨ (p1 = 55)) (hE : ∀ (r : Nat) (x : Int32) (I : sm_MI) (v : Int32) (I9 : sm_MI) (Q : sm_Q), (r = 35 ∨ r = 55) → kE r x I = some (v, I9) → Q (.inl (some (.int v))) (I9, J, sm_rf t d) → sm_C sm_sh X sm_P DE 42 [.ref 3, .ref r, .int x] (I, J, sm_rf t d) Q) (hDE : DE + 6 ≤ D) (h : F_Reader_readExpr_16 p1 kE s0 I = some (rz, Iz)) (hQ : Q (.inl (some (.int rz))) (Iz, J, sm_rf t d))  : sm_W sm_sh X (sm_C sm_sh X sm_P D) me_42 Q (16, [some (.ref 3), none, none, none, none], [.int s0], 0, 0) (I, J, sm_rf t d) := by
  unfold F_Reader_readExpr_16 at h
  rcases hp with rfl | rfl
  · skip
    refine sm_W.run (sm_C_mono D) 4 (G := True) (fr' := (if decide (s0 = 0) = true then 22 else 20, [some (.ref 3), none, none, some (.int s0), none], [.ref 3], 0, 0)) (M' := (I, J, sm_rf t d)) rfl trivial (sm_W.iteD h (fun hc h => ?_) (fun hc h => ?_))
    · refine sm_W.run (sm_C_mono D) 1 (G := True) (fr' := (23, [some (.ref 3), none, none, some (.int s0), none], [.int (1 : Int32), .ref 3], 0, 0)) (M' := (I, J, sm_rf t d)) rfl trivial ?_
      exact sm_W.forget (L' := [none, none, none, none, none]) trivial (G_Reader_readExpr_23 hD (by decide) hE hDE h hQ)
    · refine sm_W.run (sm_C_mono D) 2 (G := True) (fr' := (23, [some (.ref 3), none, none, some (.int s0), none], [.int (2 : Int32), .ref 3], 0, 0)) (M' := (I, J, sm_rf t d)) rfl trivial ?_
      exact sm_W.forget (L' := [none, none, none, none, none]) trivial (G_Reader_readExpr_23 hD (by decide) hE hDE h hQ)
  · skip
    refine sm_W.run (sm_C_mono D) 4 (G := True) (fr' := (if decide (s0 = 0) = true then 22 else 20, [some (.ref 3), none, none, some (.int s0), none], [.ref 3], 0, 0)) (M' := (I, J, sm_rf t d)) rfl trivial (sm_W.iteD h (fun hc h => ?_) (fun hc h => ?_))
    · refine sm_W.run (sm_C_mono D) 1 (G := True) (fr' := (23, [some (.ref 3), none, none, some (.int s0), none], [.int (1 : Int32), .ref 3], 0, 0)) (M' := (I, J, sm_rf t d)) rfl trivial ?_
      exact sm_W.forget (L' := [none, none, none, none, none]) trivial (G_Reader_readExpr_23 hD (by decide) hE hDE h hQ)
    · refine sm_W.run (sm_C_mono D) 2 (G := True) (fr' := (23, [some (.ref 3), none, none, some (.int s0), none], [.int (2 : Int32), .ref 3], 0, 0)) (M' := (I, J, sm_rf t d)) rfl trivial ?_
      exact sm_W.forget (L' := [none, none, none, none, none]) trivial (G_Reader_readExpr_23 hD (by decide) hE hDE h hQ)
theorem G_Reader_readExpr {X : Nat × (Nat → Int32)} {t d D DE : Nat} {Q : sm_Q} {I : sm_MI} {J : sm_MJ} {p1 : Nat} {kE : Nat → Int32 → sm_MI → Option (Int32 × sm_MI)} {x2 : Int32} {rz : Int32} {Iz : sm_MI}
    (hD : 9 ≤ D) (hp : (p1 = 35) ∨ (p1 = 55)) (hE : ∀ (r : Nat) (x : Int32) (I : sm_MI) (v : Int32) (I9 : sm_MI) (Q : sm_Q), (r = 35 ∨ r = 55) → kE r x I = some (v, I9) → Q (.inl (some (.int v))) (I9, J, sm_rf t d) → sm_C sm_sh X sm_P DE 42 [.ref 3, .ref r, .int x] (I, J, sm_rf t d) Q) (hDE : DE + 6 ≤ D) (h : F_Reader_readExpr p1 kE x2 I = some (rz, Iz)) (hQ : Q (.inl (some (.int rz))) (Iz, J, sm_rf t d))  : sm_W sm_sh X (sm_C sm_sh X sm_P D) me_42 Q (0, [some (.ref 3), some (.ref p1), some (.int x2), none, none], [], 0, 0) (I, J, sm_rf t d) := by
  unfold F_Reader_readExpr at h
  rcases hp with rfl | rfl
  · skip
    refine sm_W.run (sm_C_mono D) 3 (G := True) (fr' := (if decide (x2 < (6 : Int32)) = true then 25 else 3, [some (.ref 3), some (.ref 35), some (.int x2), none, none], [], 0, 0)) (M' := (I, J, sm_rf t d)) rfl trivial (sm_W.iteD h (fun hc h => ?_) (fun hc h => ?_))
    · refine sm_W.run (sm_C_mono D) 3 (G := True) (fr' := (28, [some (.ref 3), some (.ref 35), some (.int x2), none, none], [.int x2, .ref 35, .ref 3], 0, 0)) (M' := (I, J, sm_rf t d)) rfl trivial ?_
      obtain ⟨r1, I2, hc, h⟩ := sd_q2_go h
      refine sm_W.cal (sm_C_mono D) (y := 43) (as := [.ref 3, .ref 35, .int x2]) (fr' := (29, [some (.ref 3), some (.ref 35), some (.int x2), none, none], [], 0, 0)) rfl (T_Reader_readAnd (by omega) (by decide) hE (by omega) hc ?_)
      show sm_W sm_sh X (sm_C sm_sh X sm_P D) me_42 Q (29, [some (.ref 3), some (.ref 35), some (.int x2), none, none], [.int r1], 0, 0) (I2, J, sm_rf t d)
      refine sm_W.run (sm_C_mono D) 3 (G := True) (fr' := (32, [some (.ref 3), some (.ref 35), some (.int x2), some (.int r1), some (.int (0 : Int32))], [], 0, 0)) (M' := (I2, J, sm_rf t d)) rfl trivial ?_
      exact (G_Reader_readExpr_32 hD (by decide) hE hDE hQ sd_fu _ _ _ _ h)
    · refine sm_W.run (sm_C_mono D) 1 (G := True) (fr' := (4, [some (.ref 3), some (.ref 35), some (.int x2), none, none], [.ref 3], 0, 0)) (M' := (I, J, sm_rf t d)) rfl trivial ?_
      obtain ⟨r3, hc, h⟩ := sd_q1_go h
      refine sm_W.cal (sm_C_mono D) (y := 31) (as := [.ref 3]) (fr' := (5, [some (.ref 3), some (.ref 35), some (.int x2), none, none], [], 0, 0)) rfl (T_Reader_atNumber (by omega) hc ?_)
      show sm_W sm_sh X (sm_C sm_sh X sm_P D) me_42 Q (5, [some (.ref 3), some (.ref 35), some (.int x2), none, none], [.int r3], 0, 0) (I, J, sm_rf t d)
      refine sm_W.run (sm_C_mono D) 1 (G := True) (fr' := (if decide (¬ r3 = 0) = true then 13 else 6, [some (.ref 3), some (.ref 35), some (.int x2), none, none], [], 0, 0)) (M' := (I, J, sm_rf t d)) rfl trivial (sm_W.iteD h (fun hc h => ?_) (fun hc h => ?_))
      · refine sm_W.run (sm_C_mono D) 2 (G := True) (fr' := (16, [some (.ref 3), some (.ref 35), some (.int x2), none, none], [.int (1 : Int32)], 0, 0)) (M' := (I, J, sm_rf t d)) rfl trivial ?_
        exact sm_W.forget (L' := [some (.ref 3), none, none, none, none]) ⟨rfl, trivial⟩ (G_Reader_readExpr_16 hD (by decide) hE hDE h hQ)
      · refine sm_W.run (sm_C_mono D) 1 (G := True) (fr' := (7, [some (.ref 3), some (.ref 35), some (.int x2), none, none], [.ref 3], 0, 0)) (M' := (I, J, sm_rf t d)) rfl trivial ?_
        obtain ⟨r4, hc, h⟩ := sd_q1_go h
        refine sm_W.cal (sm_C_mono D) (y := 32) (as := [.ref 3]) (fr' := (8, [some (.ref 3), some (.ref 35), some (.int x2), none, none], [], 0, 0)) rfl (T_Reader_atWord (by omega) hc ?_)
        show sm_W sm_sh X (sm_C sm_sh X sm_P D) me_42 Q (8, [some (.ref 3), some (.ref 35), some (.int x2), none, none], [.int r4], 0, 0) (I, J, sm_rf t d)
        refine sm_W.run (sm_C_mono D) 1 (G := True) (fr' := (if decide (¬ r4 = 0) = true then 13 else 9, [some (.ref 3), some (.ref 35), some (.int x2), none, none], [], 0, 0)) (M' := (I, J, sm_rf t d)) rfl trivial (sm_W.iteD h (fun hc h => ?_) (fun hc h => ?_))
        · refine sm_W.run (sm_C_mono D) 2 (G := True) (fr' := (16, [some (.ref 3), some (.ref 35), some (.int x2), none, none], [.int (1 : Int32)], 0, 0)) (M' := (I, J, sm_rf t d)) rfl trivial ?_
          exact sm_W.forget (L' := [some (.ref 3), none, none, none, none]) ⟨rfl, trivial⟩ (G_Reader_readExpr_16 hD (by decide) hE hDE h hQ)
        · refine sm_W.run (sm_C_mono D) 2 (G := True) (fr' := (11, [some (.ref 3), some (.ref 35), some (.int x2), none, none], [.int (40 : Int32), .ref 3], 0, 0)) (M' := (I, J, sm_rf t d)) rfl trivial ?_
          obtain ⟨r5, hc, h⟩ := sd_q1_go h
          refine sm_W.cal (sm_C_mono D) (y := 30) (as := [.ref 3, .int (40 : Int32)]) (fr' := (12, [some (.ref 3), some (.ref 35), some (.int x2), none, none], [], 0, 0)) rfl (T_Reader_atSign (by omega) hc ?_)
          show sm_W sm_sh X (sm_C sm_sh X sm_P D) me_42 Q (12, [some (.ref 3), some (.ref 35), some (.int x2), none, none], [.int r5], 0, 0) (I, J, sm_rf t d)
          refine sm_W.run (sm_C_mono D) 1 (G := True) (fr' := (if decide (r5 = 0) = true then 15 else 13, [some (.ref 3), some (.ref 35), some (.int x2), none, none], [], 0, 0)) (M' := (I, J, sm_rf t d)) rfl trivial (sm_W.iteD h (fun hc h => ?_) (fun hc h => ?_))
          · refine sm_W.run (sm_C_mono D) 1 (G := True) (fr' := (16, [some (.ref 3), some (.ref 35), some (.int x2), none, none], [.int (0 : Int32)], 0, 0)) (M' := (I, J, sm_rf t d)) rfl trivial ?_
            exact sm_W.forget (L' := [some (.ref 3), none, none, none, none]) ⟨rfl, trivial⟩ (G_Reader_readExpr_16 hD (by decide) hE hDE h hQ)
          · refine sm_W.run (sm_C_mono D) 2 (G := True) (fr' := (16, [some (.ref 3), some (.ref 35), some (.int x2), none, none], [.int (1 : Int32)], 0, 0)) (M' := (I, J, sm_rf t d)) rfl trivial ?_
            exact sm_W.forget (L' := [some (.ref 3), none, none, none, none]) ⟨rfl, trivial⟩ (G_Reader_readExpr_16 hD (by decide) hE hDE h hQ)
  · skip
    refine sm_W.run (sm_C_mono D) 3 (G := True) (fr' := (if decide (x2 < (6 : Int32)) = true then 25 else 3, [some (.ref 3), some (.ref 55), some (.int x2), none, none], [], 0, 0)) (M' := (I, J, sm_rf t d)) rfl trivial (sm_W.iteD h (fun hc h => ?_) (fun hc h => ?_))
    · refine sm_W.run (sm_C_mono D) 3 (G := True) (fr' := (28, [some (.ref 3), some (.ref 55), some (.int x2), none, none], [.int x2, .ref 55, .ref 3], 0, 0)) (M' := (I, J, sm_rf t d)) rfl trivial ?_
      obtain ⟨r1, I2, hc, h⟩ := sd_q2_go h
      refine sm_W.cal (sm_C_mono D) (y := 43) (as := [.ref 3, .ref 55, .int x2]) (fr' := (29, [some (.ref 3), some (.ref 55), some (.int x2), none, none], [], 0, 0)) rfl (T_Reader_readAnd (by omega) (by decide) hE (by omega) hc ?_)
      show sm_W sm_sh X (sm_C sm_sh X sm_P D) me_42 Q (29, [some (.ref 3), some (.ref 55), some (.int x2), none, none], [.int r1], 0, 0) (I2, J, sm_rf t d)
      refine sm_W.run (sm_C_mono D) 3 (G := True) (fr' := (32, [some (.ref 3), some (.ref 55), some (.int x2), some (.int r1), some (.int (0 : Int32))], [], 0, 0)) (M' := (I2, J, sm_rf t d)) rfl trivial ?_
      exact (G_Reader_readExpr_32 hD (by decide) hE hDE hQ sd_fu _ _ _ _ h)
    · refine sm_W.run (sm_C_mono D) 1 (G := True) (fr' := (4, [some (.ref 3), some (.ref 55), some (.int x2), none, none], [.ref 3], 0, 0)) (M' := (I, J, sm_rf t d)) rfl trivial ?_
      obtain ⟨r3, hc, h⟩ := sd_q1_go h
      refine sm_W.cal (sm_C_mono D) (y := 31) (as := [.ref 3]) (fr' := (5, [some (.ref 3), some (.ref 55), some (.int x2), none, none], [], 0, 0)) rfl (T_Reader_atNumber (by omega) hc ?_)
      show sm_W sm_sh X (sm_C sm_sh X sm_P D) me_42 Q (5, [some (.ref 3), some (.ref 55), some (.int x2), none, none], [.int r3], 0, 0) (I, J, sm_rf t d)
      refine sm_W.run (sm_C_mono D) 1 (G := True) (fr' := (if decide (¬ r3 = 0) = true then 13 else 6, [some (.ref 3), some (.ref 55), some (.int x2), none, none], [], 0, 0)) (M' := (I, J, sm_rf t d)) rfl trivial (sm_W.iteD h (fun hc h => ?_) (fun hc h => ?_))
      · refine sm_W.run (sm_C_mono D) 2 (G := True) (fr' := (16, [some (.ref 3), some (.ref 55), some (.int x2), none, none], [.int (1 : Int32)], 0, 0)) (M' := (I, J, sm_rf t d)) rfl trivial ?_
        exact sm_W.forget (L' := [some (.ref 3), none, none, none, none]) ⟨rfl, trivial⟩ (G_Reader_readExpr_16 hD (by decide) hE hDE h hQ)
      · refine sm_W.run (sm_C_mono D) 1 (G := True) (fr' := (7, [some (.ref 3), some (.ref 55), some (.int x2), none, none], [.ref 3], 0, 0)) (M' := (I, J, sm_rf t d)) rfl trivial ?_
        obtain ⟨r4, hc, h⟩ := sd_q1_go h
        refine sm_W.cal (sm_C_mono D) (y := 32) (as := [.ref 3]) (fr' := (8, [some (.ref 3), some (.ref 55), some (.int x2), none, none], [], 0, 0)) rfl (T_Reader_atWord (by omega) hc ?_)
        show sm_W sm_sh X (sm_C sm_sh X sm_P D) me_42 Q (8, [some (.ref 3), some (.ref 55), some (.int x2), none, none], [.int r4], 0, 0) (I, J, sm_rf t d)
        refine sm_W.run (sm_C_mono D) 1 (G := True) (fr' := (if decide (¬ r4 = 0) = true then 13 else 9, [some (.ref 3), some (.ref 55), some (.int x2), none, none], [], 0, 0)) (M' := (I, J, sm_rf t d)) rfl trivial (sm_W.iteD h (fun hc h => ?_) (fun hc h => ?_))
        · refine sm_W.run (sm_C_mono D) 2 (G := True) (fr' := (16, [some (.ref 3), some (.ref 55), some (.int x2), none, none], [.int (1 : Int32)], 0, 0)) (M' := (I, J, sm_rf t d)) rfl trivial ?_
          exact sm_W.forget (L' := [some (.ref 3), none, none, none, none]) ⟨rfl, trivial⟩ (G_Reader_readExpr_16 hD (by decide) hE hDE h hQ)
        · refine sm_W.run (sm_C_mono D) 2 (G := True) (fr' := (11, [some (.ref 3), some (.ref 55), some (.int x2), none, none], [.int (40 : Int32), .ref 3], 0, 0)) (M' := (I, J, sm_rf t d)) rfl trivial ?_
          obtain ⟨r5, hc, h⟩ := sd_q1_go h
          refine sm_W.cal (sm_C_mono D) (y := 30) (as := [.ref 3, .int (40 : Int32)]) (fr' := (12, [some (.ref 3), some (.ref 55), some (.int x2), none, none], [], 0, 0)) rfl (T_Reader_atSign (by omega) hc ?_)
          show sm_W sm_sh X (sm_C sm_sh X sm_P D) me_42 Q (12, [some (.ref 3), some (.ref 55), some (.int x2), none, none], [.int r5], 0, 0) (I, J, sm_rf t d)
          refine sm_W.run (sm_C_mono D) 1 (G := True) (fr' := (if decide (r5 = 0) = true then 15 else 13, [some (.ref 3), some (.ref 55), some (.int x2), none, none], [], 0, 0)) (M' := (I, J, sm_rf t d)) rfl trivial (sm_W.iteD h (fun hc h => ?_) (fun hc h => ?_))
          · refine sm_W.run (sm_C_mono D) 1 (G := True) (fr' := (16, [some (.ref 3), some (.ref 55), some (.int x2), none, none], [.int (0 : Int32)], 0, 0)) (M' := (I, J, sm_rf t d)) rfl trivial ?_
            exact sm_W.forget (L' := [some (.ref 3), none, none, none, none]) ⟨rfl, trivial⟩ (G_Reader_readExpr_16 hD (by decide) hE hDE h hQ)
          · refine sm_W.run (sm_C_mono D) 2 (G := True) (fr' := (16, [some (.ref 3), some (.ref 55), some (.int x2), none, none], [.int (1 : Int32)], 0, 0)) (M' := (I, J, sm_rf t d)) rfl trivial ?_
            exact sm_W.forget (L' := [some (.ref 3), none, none, none, none]) ⟨rfl, trivial⟩ (G_Reader_readExpr_16 hD (by decide) hE hDE h hQ)
theorem T_Reader_readExpr {X : Nat × (Nat → Int32)} {t d D DE : Nat} {Q : sm_Q} {I : sm_MI} {J : sm_MJ} {p1 : Nat} {kE : Nat → Int32 → sm_MI → Option (Int32 × sm_MI)} {x2 : Int32} {rz : Int32} {Iz : sm_MI}
    (hD : 10 ≤ D) (hp : (p1 = 35) ∨ (p1 = 55)) (hE : ∀ (r : Nat) (x : Int32) (I : sm_MI) (v : Int32) (I9 : sm_MI) (Q : sm_Q), (r = 35 ∨ r = 55) → kE r x I = some (v, I9) → Q (.inl (some (.int v))) (I9, J, sm_rf t d) → sm_C sm_sh X sm_P DE 42 [.ref 3, .ref r, .int x] (I, J, sm_rf t d) Q) (hDE : DE + 7 ≤ D) (h : F_Reader_readExpr p1 kE x2 I = some (rz, Iz)) (hQ : Q (.inl (some (.int rz))) (Iz, J, sm_rf t d)) : sm_C sm_sh X sm_P D 42 [.ref 3, .ref p1, .int x2] (I, J, sm_rf t d) Q := by
  cases D with
  | zero => omega
  | succ D => exact sm_C.of (me := me_42) (L := [some (.ref 3), some (.ref p1), some (.int x2), none, none]) rfl rfl rfl (sm_W.forget (L' := [some (.ref 3), some (.ref p1), some (.int x2), none, none]) ⟨rfl, ⟨rfl, ⟨rfl, trivial⟩⟩⟩ (G_Reader_readExpr (by omega) hp hE (by omega) h hQ))
/-- expressions, so many deep -/
noncomputable def E_readExpr (n : Nat) : Nat → Int32 → sm_MI → Option (Int32 × sm_MI) :=
  sd_fix (fun kE r x I => F_Reader_readExpr r kE x I) (fun _ _ _ => none) n
theorem TE_readExpr {X : Nat × (Nat → Int32)} {t d : Nat} {J : sm_MJ} : ∀ (n : Nat) {D : Nat} {Q : sm_Q} {I : sm_MI} {r : Nat} {x rz : Int32} {Iz : sm_MI}, 10 + 7 * n ≤ D → (r = 35 ∨ r = 55) → E_readExpr n r x I = some (rz, Iz) → Q (.inl (some (.int rz))) (Iz, J, sm_rf t d) → sm_C sm_sh X sm_P D 42 [.ref 3, .ref r, .int x] (I, J, sm_rf t d) Q
  | 0, _, _, _, _, _, _, _, _, _, h, _ => by cases (show (none : Option (Int32 × sm_MI)) = some _ from h)
  | n + 1, D, Q, I, r, x, rz, Iz, hD, hr, h, hQ => T_Reader_readExpr (kE := E_readExpr n) (DE := 10 + 7 * n) (by omega) hr (fun r x I v I9 Q hr hc hQ => TE_readExpr n (Nat.le_refl _) hr hc hQ) (by omega) (show F_Reader_readExpr r (E_readExpr n) x I = some (rz, Iz) from h) hQ
-- 3 Choir_within
noncomputable def F_Choir_within (x0 : Int32) (x1 : Int32) (x2 : Int32) : Option (Int32) :=
  if x0 < x1 then
    some ((0 : Int32))
  else
    if x2 < x0 then
      some ((0 : Int32))
    else
      some ((1 : Int32))
theorem G_Choir_within {X : Nat × (Nat → Int32)} {t d D : Nat} {Q : sm_Q} {I : sm_MI} {J : sm_MJ} {x0 : Int32} {x1 : Int32} {x2 : Int32} {rz : Int32}
    (hD : 0 ≤ D) (h : F_Choir_within x0 x1 x2 = some (rz)) (hQ : Q (.inl (some (.int rz))) (I, J, sm_rf t d))  : sm_W sm_sh X (sm_C sm_sh X sm_P D) me_3 Q (0, [some (.int x0), some (.int x1), some (.int x2)], [], 0, 0) (I, J, sm_rf t d) := by
  unfold F_Choir_within at h
  refine sm_W.run (sm_C_mono D) 3 (G := True) (fr' := (if decide (x0 < x1) = true then 8 else 3, [some (.int x0), some (.int x1), some (.int x2)], [], 0, 0)) (M' := (I, J, sm_rf t d)) rfl trivial (sm_W.iteD h (fun hc h => ?_) (fun hc h => ?_))
  · refine sm_W.run (sm_C_mono D) 1 (G := True) (fr' := (9, [some (.int x0), some (.int x1), some (.int x2)], [.int (0 : Int32)], 0, 0)) (M' := (I, J, sm_rf t d)) rfl trivial ?_
    cases h
    exact sm_W.ret (sm_C_mono D) rfl hQ
  · refine sm_W.run (sm_C_mono D) 3 (G := True) (fr' := (if decide (x2 < x0) = true then 8 else 6, [some (.int x0), some (.int x1), some (.int x2)], [], 0, 0)) (M' := (I, J, sm_rf t d)) rfl trivial (sm_W.iteD h (fun hc h => ?_) (fun hc h => ?_))
    · refine sm_W.run (sm_C_mono D) 1 (G := True) (fr' := (9, [some (.int x0), some (.int x1), some (.int x2)], [.int (0 : Int32)], 0, 0)) (M' := (I, J, sm_rf t d)) rfl trivial ?_
      cases h
      exact sm_W.ret (sm_C_mono D) rfl hQ
    · refine sm_W.run (sm_C_mono D) 2 (G := True) (fr' := (9, [some (.int x0), some (.int x1), some (.int x2)], [.int (1 : Int32)], 0, 0)) (M' := (I, J, sm_rf t d)) rfl trivial ?_
      cases h
      exact sm_W.ret (sm_C_mono D) rfl hQ
theorem T_Choir_within {X : Nat × (Nat → Int32)} {t d D : Nat} {Q : sm_Q} {I : sm_MI} {J : sm_MJ} {x0 : Int32} {x1 : Int32} {x2 : Int32} {rz : Int32}
    (hD : 1 ≤ D) (h : F_Choir_within x0 x1 x2 = some (rz)) (hQ : Q (.inl (some (.int rz))) (I, J, sm_rf t d)) : sm_C sm_sh X sm_P D 3 [.int x0, .int x1, .int x2] (I, J, sm_rf t d) Q := by
  cases D with
  | zero => omega
  | succ D => exact sm_C.of (me := me_3) (L := [some (.int x0), some (.int x1), some (.int x2)]) rfl rfl rfl (sm_W.forget (L' := [some (.int x0), some (.int x1), some (.int x2)]) ⟨rfl, ⟨rfl, ⟨rfl, trivial⟩⟩⟩ (G_Choir_within (by omega) h hQ))
-- 2 Choir_movesInto
noncomputable def F_Choir_movesInto_4B (p0 : Nat) (k4 : Int32 → Int32 → Int32 → Int32 → Int32 → Option (Int32)) (x1 : Int32) (x2 : Int32) (x3 : Int32) (x4 : Int32) (x5 : Int32) (I : sm_MI) : Option (Int32) :=
  sd_gu (sm_in x1 20 = true) <|
  if (I (p0 + 7) (Int32.toNatClampNeg x1)) ≤ x5 then
    some (x4)
  else
    if (12 : Int32) ≤ x5 then
      some (x4)
    else
      sd_gu (sm_in ((x1 * (12 : Int32)) + x5) 240 = true) <|
      sd_lt (I (p0 + 8) (Int32.toNatClampNeg ((x1 * (12 : Int32)) + x5))) fun a3 =>
      sd_q1 (F_Choir_within a3 x2 x3) fun r4 =>
      if ¬ r4 = 0 then
        k4 x1 x2 x3 x4 (x5 + (1 : Int32))
      else
        sd_q1 (F_Choir_within (a3 - (12 : Int32)) x2 x3) fun r5 =>
        if ¬ r5 = 0 then
          k4 x1 x2 x3 (x4 + (1 : Int32)) (x5 + (1 : Int32))
        else
          sd_q1 (F_Choir_within (a3 + (12 : Int32)) x2 x3) fun r6 =>
          if ¬ r6 = 0 then
            k4 x1 x2 x3 (x4 + (1 : Int32)) (x5 + (1 : Int32))
          else
            some ((1000 : Int32))
noncomputable def F_Choir_movesInto_4 (p0 : Nat) (I : sm_MI) (n : Nat) : Int32 → Int32 → Int32 → Int32 → Int32 → Option (Int32) :=
  sd_fix (fun k x1 x2 x3 x4 x5 => F_Choir_movesInto_4B p0 k x1 x2 x3 x4 x5 I) (fun _ _ _ _ _ => none) n
noncomputable def F_Choir_movesInto (p0 : Nat) (x1 : Int32) (x2 : Int32) (x3 : Int32) (I : sm_MI) : Option (Int32) :=
  F_Choir_movesInto_4 p0 I sd_fu x1 x2 x3 (0 : Int32) (0 : Int32)
theorem G_Choir_movesInto_4B {X : Nat × (Nat → Int32)} {t d D : Nat} {Q : sm_Q} {I : sm_MI} {J : sm_MJ} {p0 : Nat} {k4 : Int32 → Int32 → Int32 → Int32 → Int32 → Option (Int32)} {x1 : Int32} {x2 : Int32} {x3 : Int32} {x4 : Int32} {x5 : Int32} {rz : Int32}
    (hD : 1 ≤ D) (hp : (p0 = 21) ∨ (p0 = 41)) (h : F_Choir_movesInto_4B p0 k4 x1 x2 x3 x4 x5 I = some (rz)) (hQ : Q (.inl (some (.int rz))) (I, J, sm_rf t d)) (hk4 : ∀ (x1 : Int32) (x2 : Int32) (x3 : Int32) (x4 : Int32) (x5 : Int32), k4 x1 x2 x3 x4 x5 = some (rz) → sm_W sm_sh X (sm_C sm_sh X sm_P D) me_2 Q (4, [some (.ref p0), some (.int x1), some (.int x2), some (.int x3), some (.int x4), some (.int x5), none], [], 0, 0) (I, J, sm_rf t d)) : sm_W sm_sh X (sm_C sm_sh X sm_P D) me_2 Q (4, [some (.ref p0), some (.int x1), some (.int x2), some (.int x3), some (.int x4), some (.int x5), none], [], 0, 0) (I, J, sm_rf t d) := by
  unfold F_Choir_movesInto_4B at h
  rcases hp with rfl | rfl
  · skip
    obtain ⟨g1, h⟩ := sd_gu_go h
    refine sm_W.run (sm_C_mono D) 6 (G := sm_in x1 20 = true ∧ True) (fr' := (if decide ((I (21 + 7) (Int32.toNatClampNeg x1)) ≤ x5) = true then 46 else 10, [some (.ref 21), some (.int x1), some (.int x2), some (.int x3), some (.int x4), some (.int x5), none], [], 0, 0)) (M' := (I, J, sm_rf t d)) rfl ⟨g1, trivial⟩ (sm_W.iteD h (fun hc h => ?_) (fun hc h => ?_))
    · refine sm_W.run (sm_C_mono D) 1 (G := True) (fr' := (47, [some (.ref 21), some (.int x1), some (.int x2), some (.int x3), some (.int x4), some (.int x5), none], [.int x4], 0, 0)) (M' := (I, J, sm_rf t d)) rfl trivial ?_
      cases h
      exact sm_W.ret (sm_C_mono D) rfl hQ
    · refine sm_W.run (sm_C_mono D) 3 (G := True) (fr' := (if decide ((12 : Int32) ≤ x5) = true then 46 else 13, [some (.ref 21), some (.int x1), some (.int x2), some (.int x3), some (.int x4), some (.int x5), none], [], 0, 0)) (M' := (I, J, sm_rf t d)) rfl trivial (sm_W.iteD h (fun hc h => ?_) (fun hc h => ?_))
      · refine sm_W.run (sm_C_mono D) 1 (G := True) (fr' := (47, [some (.ref 21), some (.int x1), some (.int x2), some (.int x3), some (.int x4), some (.int x5), none], [.int x4], 0, 0)) (M' := (I, J, sm_rf t d)) rfl trivial ?_
        cases h
        exact sm_W.ret (sm_C_mono D) rfl hQ
      · obtain ⟨g2, h⟩ := sd_gu_go h
        refine sm_W.runL (sm_C_mono D) 9 (G := sm_in ((x1 * (12 : Int32)) + x5) 240 = true ∧ True) (e := (I (21 + 8) (Int32.toNatClampNeg ((x1 * (12 : Int32)) + x5)))) (fr' := fun a3 => (22, [some (.ref 21), some (.int x1), some (.int x2), some (.int x3), some (.int x4), some (.int x5), some (.int a3)], [], 0, 0)) (M' := fun _ => (I, J, sm_rf t d)) rfl h ⟨g2, trivial⟩ (fun a3 h => ?_)
        refine sm_W.run (sm_C_mono D) 3 (G := True) (fr' := (25, [some (.ref 21), some (.int x1), some (.int x2), some (.int x3), some (.int x4), some (.int x5), some (.int a3)], [.int x3, .int x2, .int a3], 0, 0)) (M' := (I, J, sm_rf t d)) rfl trivial ?_
        obtain ⟨r4, hc, h⟩ := sd_q1_go h
        refine sm_W.cal (sm_C_mono D) (y := 3) (as := [.int a3, .int x2, .int x3]) (fr' := (26, [some (.ref 21), some (.int x1), some (.int x2), some (.int x3), some (.int x4), some (.int x5), some (.int a3)], [], 0, 0)) rfl (T_Choir_within (by omega) hc ?_)
        show sm_W sm_sh X (sm_C sm_sh X sm_P D) me_2 Q (26, [some (.ref 21), some (.int x1), some (.int x2), some (.int x3), some (.int x4), some (.int x5), some (.int a3)], [.int r4], 0, 0) (I, J, sm_rf t d)
        refine sm_W.run (sm_C_mono D) 1 (G := True) (fr' := (if decide (¬ r4 = 0) = true then 44 else 27, [some (.ref 21), some (.int x1), some (.int x2), some (.int x3), some (.int x4), some (.int x5), some (.int a3)], [], 0, 0)) (M' := (I, J, sm_rf t d)) rfl trivial (sm_W.iteD h (fun hc h => ?_) (fun hc h => ?_))
        · refine sm_W.run (sm_C_mono D) 2 (G := True) (fr' := (4, [some (.ref 21), some (.int x1), some (.int x2), some (.int x3), some (.int x4), some (.int (x5 + (1 : Int32))), some (.int a3)], [], 0, 0)) (M' := (I, J, sm_rf t d)) rfl trivial ?_
          exact sm_W.forget (L' := [some (.ref 21), some (.int x1), some (.int x2), some (.int x3), some (.int x4), some (.int (x5 + (1 : Int32))), none]) ⟨rfl, ⟨rfl, ⟨rfl, ⟨rfl, ⟨rfl, ⟨rfl, trivial⟩⟩⟩⟩⟩⟩ (hk4 _ _ _ _ _ h)
        · refine sm_W.run (sm_C_mono D) 5 (G := True) (fr' := (32, [some (.ref 21), some (.int x1), some (.int x2), some (.int x3), some (.int x4), some (.int x5), some (.int a3)], [.int x3, .int x2, .int (a3 - (12 : Int32))], 0, 0)) (M' := (I, J, sm_rf t d)) rfl trivial ?_
          obtain ⟨r5, hc, h⟩ := sd_q1_go h
          refine sm_W.cal (sm_C_mono D) (y := 3) (as := [.int (a3 - (12 : Int32)), .int x2, .int x3]) (fr' := (33, [some (.ref 21), some (.int x1), some (.int x2), some (.int x3), some (.int x4), some (.int x5), some (.int a3)], [], 0, 0)) rfl (T_Choir_within (by omega) hc ?_)
          show sm_W sm_sh X (sm_C sm_sh X sm_P D) me_2 Q (33, [some (.ref 21), some (.int x1), some (.int x2), some (.int x3), some (.int x4), some (.int x5), some (.int a3)], [.int r5], 0, 0) (I, J, sm_rf t d)
          refine sm_W.run (sm_C_mono D) 1 (G := True) (fr' := (if decide (¬ r5 = 0) = true then 43 else 34, [some (.ref 21), some (.int x1), some (.int x2), some (.int x3), some (.int x4), some (.int x5), some (.int a3)], [], 0, 0)) (M' := (I, J, sm_rf t d)) rfl trivial (sm_W.iteD h (fun hc h => ?_) (fun hc h => ?_))
          · refine sm_W.run (sm_C_mono D) 3 (G := True) (fr' := (4, [some (.ref 21), some (.int x1), some (.int x2), some (.int x3), some (.int (x4 + (1 : Int32))), some (.int (x5 + (1 : Int32))), some (.int a3)], [], 0, 0)) (M' := (I, J, sm_rf t d)) rfl trivial ?_
            exact sm_W.forget (L' := [some (.ref 21), some (.int x1), some (.int x2), some (.int x3), some (.int (x4 + (1 : Int32))), some (.int (x5 + (1 : Int32))), none]) ⟨rfl, ⟨rfl, ⟨rfl, ⟨rfl, ⟨rfl, ⟨rfl, trivial⟩⟩⟩⟩⟩⟩ (hk4 _ _ _ _ _ h)
          · refine sm_W.run (sm_C_mono D) 5 (G := True) (fr' := (39, [some (.ref 21), some (.int x1), some (.int x2), some (.int x3), some (.int x4), some (.int x5), some (.int a3)], [.int x3, .int x2, .int (a3 + (12 : Int32))], 0, 0)) (M' := (I, J, sm_rf t d)) rfl trivial ?_
            obtain ⟨r6, hc, h⟩ := sd_q1_go h
            refine sm_W.cal (sm_C_mono D) (y := 3) (as := [.int (a3 + (12 : Int32)), .int x2, .int x3]) (fr' := (40, [some (.ref 21), some (.int x1), some (.int x2), some (.int x3), some (.int x4), some (.int x5), some (.int a3)], [], 0, 0)) rfl (T_Choir_within (by omega) hc ?_)
            show sm_W sm_sh X (sm_C sm_sh X sm_P D) me_2 Q (40, [some (.ref 21), some (.int x1), some (.int x2), some (.int x3), some (.int x4), some (.int x5), some (.int a3)], [.int r6], 0, 0) (I, J, sm_rf t d)
            refine sm_W.run (sm_C_mono D) 1 (G := True) (fr' := (if decide (¬ r6 = 0) = true then 43 else 41, [some (.ref 21), some (.int x1), some (.int x2), some (.int x3), some (.int x4), some (.int x5), some (.int a3)], [], 0, 0)) (M' := (I, J, sm_rf t d)) rfl trivial (sm_W.iteD h (fun hc h => ?_) (fun hc h => ?_))
            · refine sm_W.run (sm_C_mono D) 3 (G := True) (fr' := (4, [some (.ref 21), some (.int x1), some (.int x2), some (.int x3), some (.int (x4 + (1 : Int32))), some (.int (x5 + (1 : Int32))), some (.int a3)], [], 0, 0)) (M' := (I, J, sm_rf t d)) rfl trivial ?_
              exact sm_W.forget (L' := [some (.ref 21), some (.int x1), some (.int x2), some (.int x3), some (.int (x4 + (1 : Int32))), some (.int (x5 + (1 : Int32))), none]) ⟨rfl, ⟨rfl, ⟨rfl, ⟨rfl, ⟨rfl, ⟨rfl, trivial⟩⟩⟩⟩⟩⟩ (hk4 _ _ _ _ _ h)
            · refine sm_W.run (sm_C_mono D) 1 (G := True) (fr' := (42, [some (.ref 21), some (.int x1), some (.int x2), some (.int x3), some (.int x4), some (.int x5), some (.int a3)], [.int (1000 : Int32)], 0, 0)) (M' := (I, J, sm_rf t d)) rfl trivial ?_
              cases h
              exact sm_W.ret (sm_C_mono D) rfl hQ
  · skip
    obtain ⟨g1, h⟩ := sd_gu_go h
    refine sm_W.run (sm_C_mono D) 6 (G := sm_in x1 20 = true ∧ True) (fr' := (if decide ((I (41 + 7) (Int32.toNatClampNeg x1)) ≤ x5) = true then 46 else 10, [some (.ref 41), some (.int x1), some (.int x2), some (.int x3), some (.int x4), some (.int x5), none], [], 0, 0)) (M' := (I, J, sm_rf t d)) rfl ⟨g1, trivial⟩ (sm_W.iteD h (fun hc h => ?_) (fun hc h => ?_))
    · refine sm_W.run (sm_C_mono D) 1 (G := True) (fr' := (47, [some (.ref 41), some (.int x1), some (.int x2), some (.int x3), some (.int x4), some (.int x5), none], [.int x4], 0, 0)) (M' := (I, J, sm_rf t d)) rfl trivial ?_
      cases h
      exact sm_W.ret (sm_C_mono D) rfl hQ
    · refine sm_W.run (sm_C_mono D) 3 (G := True) (fr' := (if decide ((12 : Int32) ≤ x5) = true then 46 else 13, [some (.ref 41), some (.int x1), some (.int x2), some (.int x3), some (.int x4), some (.int x5), none], [], 0, 0)) (M' := (I, J, sm_rf t d)) rfl trivial (sm_W.iteD h (fun hc h => ?_) (fun hc h => ?_))
      · refine sm_W.run (sm_C_mono D) 1 (G := True) (fr' := (47, [some (.ref 41), some (.int x1), some (.int x2), some (.int x3), some (.int x4), some (.int x5), none], [.int x4], 0, 0)) (M' := (I, J, sm_rf t d)) rfl trivial ?_
        cases h
        exact sm_W.ret (sm_C_mono D) rfl hQ
      · obtain ⟨g2, h⟩ := sd_gu_go h
        refine sm_W.runL (sm_C_mono D) 9 (G := sm_in ((x1 * (12 : Int32)) + x5) 240 = true ∧ True) (e := (I (41 + 8) (Int32.toNatClampNeg ((x1 * (12 : Int32)) + x5)))) (fr' := fun a3 => (22, [some (.ref 41), some (.int x1), some (.int x2), some (.int x3), some (.int x4), some (.int x5), some (.int a3)], [], 0, 0)) (M' := fun _ => (I, J, sm_rf t d)) rfl h ⟨g2, trivial⟩ (fun a3 h => ?_)
        refine sm_W.run (sm_C_mono D) 3 (G := True) (fr' := (25, [some (.ref 41), some (.int x1), some (.int x2), some (.int x3), some (.int x4), some (.int x5), some (.int a3)], [.int x3, .int x2, .int a3], 0, 0)) (M' := (I, J, sm_rf t d)) rfl trivial ?_
        obtain ⟨r4, hc, h⟩ := sd_q1_go h
        refine sm_W.cal (sm_C_mono D) (y := 3) (as := [.int a3, .int x2, .int x3]) (fr' := (26, [some (.ref 41), some (.int x1), some (.int x2), some (.int x3), some (.int x4), some (.int x5), some (.int a3)], [], 0, 0)) rfl (T_Choir_within (by omega) hc ?_)
        show sm_W sm_sh X (sm_C sm_sh X sm_P D) me_2 Q (26, [some (.ref 41), some (.int x1), some (.int x2), some (.int x3), some (.int x4), some (.int x5), some (.int a3)], [.int r4], 0, 0) (I, J, sm_rf t d)
        refine sm_W.run (sm_C_mono D) 1 (G := True) (fr' := (if decide (¬ r4 = 0) = true then 44 else 27, [some (.ref 41), some (.int x1), some (.int x2), some (.int x3), some (.int x4), some (.int x5), some (.int a3)], [], 0, 0)) (M' := (I, J, sm_rf t d)) rfl trivial (sm_W.iteD h (fun hc h => ?_) (fun hc h => ?_))
        · refine sm_W.run (sm_C_mono D) 2 (G := True) (fr' := (4, [some (.ref 41), some (.int x1), some (.int x2), some (.int x3), some (.int x4), some (.int (x5 + (1 : Int32))), some (.int a3)], [], 0, 0)) (M' := (I, J, sm_rf t d)) rfl trivial ?_
          exact sm_W.forget (L' := [some (.ref 41), some (.int x1), some (.int x2), some (.int x3), some (.int x4), some (.int (x5 + (1 : Int32))), none]) ⟨rfl, ⟨rfl, ⟨rfl, ⟨rfl, ⟨rfl, ⟨rfl, trivial⟩⟩⟩⟩⟩⟩ (hk4 _ _ _ _ _ h)
        · refine sm_W.run (sm_C_mono D) 5 (G := True) (fr' := (32, [some (.ref 41), some (.int x1), some (.int x2), some (.int x3), some (.int x4), some (.int x5), some (.int a3)], [.int x3, .int x2, .int (a3 - (12 : Int32))], 0, 0)) (M' := (I, J, sm_rf t d)) rfl trivial ?_
          obtain ⟨r5, hc, h⟩ := sd_q1_go h
          refine sm_W.cal (sm_C_mono D) (y := 3) (as := [.int (a3 - (12 : Int32)), .int x2, .int x3]) (fr' := (33, [some (.ref 41), some (.int x1), some (.int x2), some (.int x3), some (.int x4), some (.int x5), some (.int a3)], [], 0, 0)) rfl (T_Choir_within (by omega) hc ?_)
          show sm_W sm_sh X (sm_C sm_sh X sm_P D) me_2 Q (33, [some (.ref 41), some (.int x1), some (.int x2), some (.int x3), some (.int x4), some (.int x5), some (.int a3)], [.int r5], 0, 0) (I, J, sm_rf t d)
          refine sm_W.run (sm_C_mono D) 1 (G := True) (fr' := (if decide (¬ r5 = 0) = true then 43 else 34, [some (.ref 41), some (.int x1), some (.int x2), some (.int x3), some (.int x4), some (.int x5), some (.int a3)], [], 0, 0)) (M' := (I, J, sm_rf t d)) rfl trivial (sm_W.iteD h (fun hc h => ?_) (fun hc h => ?_))
          · refine sm_W.run (sm_C_mono D) 3 (G := True) (fr' := (4, [some (.ref 41), some (.int x1), some (.int x2), some (.int x3), some (.int (x4 + (1 : Int32))), some (.int (x5 + (1 : Int32))), some (.int a3)], [], 0, 0)) (M' := (I, J, sm_rf t d)) rfl trivial ?_
            exact sm_W.forget (L' := [some (.ref 41), some (.int x1), some (.int x2), some (.int x3), some (.int (x4 + (1 : Int32))), some (.int (x5 + (1 : Int32))), none]) ⟨rfl, ⟨rfl, ⟨rfl, ⟨rfl, ⟨rfl, ⟨rfl, trivial⟩⟩⟩⟩⟩⟩ (hk4 _ _ _ _ _ h)
          · refine sm_W.run (sm_C_mono D) 5 (G := True) (fr' := (39, [some (.ref 41), some (.int x1), some (.int x2), some (.int x3), some (.int x4), some (.int x5), some (.int a3)], [.int x3, .int x2, .int (a3 + (12 : Int32))], 0, 0)) (M' := (I, J, sm_rf t d)) rfl trivial ?_
            obtain ⟨r6, hc, h⟩ := sd_q1_go h
            refine sm_W.cal (sm_C_mono D) (y := 3) (as := [.int (a3 + (12 : Int32)), .int x2, .int x3]) (fr' := (40, [some (.ref 41), some (.int x1), some (.int x2), some (.int x3), some (.int x4), some (.int x5), some (.int a3)], [], 0, 0)) rfl (T_Choir_within (by omega) hc ?_)
            show sm_W sm_sh X (sm_C sm_sh X sm_P D) me_2 Q (40, [some (.ref 41), some (.int x1), some (.int x2), some (.int x3), some (.int x4), some (.int x5), some (.int a3)], [.int r6], 0, 0) (I, J, sm_rf t d)
            refine sm_W.run (sm_C_mono D) 1 (G := True) (fr' := (if decide (¬ r6 = 0) = true then 43 else 41, [some (.ref 41), some (.int x1), some (.int x2), some (.int x3), some (.int x4), some (.int x5), some (.int a3)], [], 0, 0)) (M' := (I, J, sm_rf t d)) rfl trivial (sm_W.iteD h (fun hc h => ?_) (fun hc h => ?_))
            · refine sm_W.run (sm_C_mono D) 3 (G := True) (fr' := (4, [some (.ref 41), some (.int x1), some (.int x2), some (.int x3), some (.int (x4 + (1 : Int32))), some (.int (x5 + (1 : Int32))), some (.int a3)], [], 0, 0)) (M' := (I, J, sm_rf t d)) rfl trivial ?_
              exact sm_W.forget (L' := [some (.ref 41), some (.int x1), some (.int x2), some (.int x3), some (.int (x4 + (1 : Int32))), some (.int (x5 + (1 : Int32))), none]) ⟨rfl, ⟨rfl, ⟨rfl, ⟨rfl, ⟨rfl, ⟨rfl, trivial⟩⟩⟩⟩⟩⟩ (hk4 _ _ _ _ _ h)
            · refine sm_W.run (sm_C_mono D) 1 (G := True) (fr' := (42, [some (.ref 41), some (.int x1), some (.int x2), some (.int x3), some (.int x4), some (.int x5), some (.int a3)], [.int (1000 : Int32)], 0, 0)) (M' := (I, J, sm_rf t d)) rfl trivial ?_
              cases h
              exact sm_W.ret (sm_C_mono D) rfl hQ
theorem G_Choir_movesInto_4 {X : Nat × (Nat → Int32)} {t d D : Nat} {Q : sm_Q} {I : sm_MI} {J : sm_MJ} {p0 : Nat} {rz : Int32}
    (hD : 1 ≤ D) (hp : (p0 = 21) ∨ (p0 = 41)) (hQ : Q (.inl (some (.int rz))) (I, J, sm_rf t d))  : ∀ (n : Nat) (x1 : Int32) (x2 : Int32) (x3 : Int32) (x4 : Int32) (x5 : Int32), F_Choir_movesInto_4 p0 I n x1 x2 x3 x4 x5 = some (rz) → sm_W sm_sh X (sm_C sm_sh X sm_P D) me_2 Q (4, [some (.ref p0), some (.int x1), some (.int x2), some (.int x3), some (.int x4), some (.int x5), none], [], 0, 0) (I, J, sm_rf t d) := by
  intro n
  induction n with
  | zero => intro x1 x2 x3 x4 x5 h; cases (show (none : Option (Int32)) = some (rz) from h)
  | succ n ih => intro x1 x2 x3 x4 x5 h; exact G_Choir_movesInto_4B hD hp (show F_Choir_movesInto_4B p0 (F_Choir_movesInto_4 p0 I n) x1 x2 x3 x4 x5 I = some (rz) from h) hQ  ih
theorem G_Choir_movesInto {X : Nat × (Nat → Int32)} {t d D : Nat} {Q : sm_Q} {I : sm_MI} {J : sm_MJ} {p0 : Nat} {x1 : Int32} {x2 : Int32} {x3 : Int32} {rz : Int32}
    (hD : 1 ≤ D) (hp : (p0 = 21) ∨ (p0 = 41)) (h : F_Choir_movesInto p0 x1 x2 x3 I = some (rz)) (hQ : Q (.inl (some (.int rz))) (I, J, sm_rf t d))  : sm_W sm_sh X (sm_C sm_sh X sm_P D) me_2 Q (0, [some (.ref p0), some (.int x1), some (.int x2), some (.int x3), none, none, none], [], 0, 0) (I, J, sm_rf t d) := by
  unfold F_Choir_movesInto at h
  rcases hp with rfl | rfl
  · skip
    refine sm_W.run (sm_C_mono D) 4 (G := True) (fr' := (4, [some (.ref 21), some (.int x1), some (.int x2), some (.int x3), some (.int (0 : Int32)), some (.int (0 : Int32)), none], [], 0, 0)) (M' := (I, J, sm_rf t d)) rfl trivial ?_
    exact (G_Choir_movesInto_4 hD (by decide) hQ sd_fu _ _ _ _ _ h)
  · skip
    refine sm_W.run (sm_C_mono D) 4 (G := True) (fr' := (4, [some (.ref 41), some (.int x1), some (.int x2), some (.int x3), some (.int (0 : Int32)), some (.int (0 : Int32)), none], [], 0, 0)) (M' := (I, J, sm_rf t d)) rfl trivial ?_
    exact (G_Choir_movesInto_4 hD (by decide) hQ sd_fu _ _ _ _ _ h)
theorem T_Choir_movesInto {X : Nat × (Nat → Int32)} {t d D : Nat} {Q : sm_Q} {I : sm_MI} {J : sm_MJ} {p0 : Nat} {x1 : Int32} {x2 : Int32} {x3 : Int32} {rz : Int32}
    (hD : 2 ≤ D) (hp : (p0 = 21) ∨ (p0 = 41)) (h : F_Choir_movesInto p0 x1 x2 x3 I = some (rz)) (hQ : Q (.inl (some (.int rz))) (I, J, sm_rf t d)) : sm_C sm_sh X sm_P D 2 [.ref p0, .int x1, .int x2, .int x3] (I, J, sm_rf t d) Q := by
  cases D with
  | zero => omega
  | succ D => exact sm_C.of (me := me_2) (L := [some (.ref p0), some (.int x1), some (.int x2), some (.int x3), none, none, none]) rfl rfl rfl (sm_W.forget (L' := [some (.ref p0), some (.int x1), some (.int x2), some (.int x3), none, none, none]) ⟨rfl, ⟨rfl, ⟨rfl, ⟨rfl, trivial⟩⟩⟩⟩ (G_Choir_movesInto (by omega) hp h hQ))
-- 85 Valley_reaching
noncomputable def F_Valley_reaching_4B (p0 : Nat) (k4 : Int32 → Int32 → Int32 → Int32 → Int32 → Option (Int32)) (x1 : Int32) (x2 : Int32) (x3 : Int32) (x4 : Int32) (x5 : Int32) (I : sm_MI) : Option (Int32) :=
  if (14 : Int32) ≤ x5 then
    some (x4)
  else
    if ((x1 >>> (x5 &&& 31)) &&& (1 : Int32)) = 0 then
      k4 x1 x2 x3 x4 (x5 + (1 : Int32))
    else
      sd_gu (sm_in x5 14 = true) <|
      if x2 < (I (p0 + 3) (Int32.toNatClampNeg x5)) then
        k4 x1 x2 x3 x4 (x5 + (1 : Int32))
      else
        sd_gu (sm_in x5 14 = true) <|
        if (I (p0 + 4) (Int32.toNatClampNeg x5)) < x3 then
          k4 x1 x2 x3 x4 (x5 + (1 : Int32))
        else
          sd_lt (x4 ||| ((1 : Int32) <<< (x5 &&& 31))) fun a3 =>
          k4 x1 x2 x3 a3 (x5 + (1 : Int32))
noncomputable def F_Valley_reaching_4 (p0 : Nat) (I : sm_MI) (n : Nat) : Int32 → Int32 → Int32 → Int32 → Int32 → Option (Int32) :=
  sd_fix (fun k x1 x2 x3 x4 x5 => F_Valley_reaching_4B p0 k x1 x2 x3 x4 x5 I) (fun _ _ _ _ _ => none) n
noncomputable def F_Valley_reaching (p0 : Nat) (x1 : Int32) (x2 : Int32) (x3 : Int32) (I : sm_MI) : Option (Int32) :=
  F_Valley_reaching_4 p0 I sd_fu x1 x2 x3 (0 : Int32) (0 : Int32)
theorem G_Valley_reaching_4B {X : Nat × (Nat → Int32)} {t d D : Nat} {Q : sm_Q} {I : sm_MI} {J : sm_MJ} {p0 : Nat} {k4 : Int32 → Int32 → Int32 → Int32 → Int32 → Option (Int32)} {x1 : Int32} {x2 : Int32} {x3 : Int32} {x4 : Int32} {x5 : Int32} {rz : Int32}
    (hD : 0 ≤ D) (hp : (p0 = 21) ∨ (p0 = 41)) (h : F_Valley_reaching_4B p0 k4 x1 x2 x3 x4 x5 I = some (rz)) (hQ : Q (.inl (some (.int rz))) (I, J, sm_rf t d)) (hk4 : ∀ (x1 : Int32) (x2 : Int32) (x3 : Int32) (x4 : Int32) (x5 : Int32), k4 x1 x2 x3 x4 x5 = some (rz) → sm_W sm_sh X (sm_C sm_sh X sm_P D) me_85 Q (4, [some (.ref p0), some (.int x1), some (.int x2), some (.int x3), some (.int x4), some (.int x5)], [], 0, 0) (I, J, sm_rf t d)) : sm_W sm_sh X (sm_C sm_sh X sm_P D) me_85 Q (4, [some (.ref p0), some (.int x1), some (.int x2), some (.int x3), some (.int x4), some (.int x5)], [], 0, 0) (I, J, sm_rf t d) := by
  unfold F_Valley_reaching_4B at h
  rcases hp with rfl | rfl
  · skip
    refine sm_W.run (sm_C_mono D) 3 (G := True) (fr' := (if decide ((14 : Int32) ≤ x5) = true then 33 else 7, [some (.ref 21), some (.int x1), some (.int x2), some (.int x3), some (.int x4), some (.int x5)], [], 0, 0)) (M' := (I, J, sm_rf t d)) rfl trivial (sm_W.iteD h (fun hc h => ?_) (fun hc h => ?_))
    · refine sm_W.run (sm_C_mono D) 1 (G := True) (fr' := (34, [some (.ref 21), some (.int x1), some (.int x2), some (.int x3), some (.int x4), some (.int x5)], [.int x4], 0, 0)) (M' := (I, J, sm_rf t d)) rfl trivial ?_
      cases h
      exact sm_W.ret (sm_C_mono D) rfl hQ
    · refine sm_W.run (sm_C_mono D) 6 (G := True) (fr' := (if decide (((x1 >>> (x5 &&& 31)) &&& (1 : Int32)) = 0) = true then 31 else 13, [some (.ref 21), some (.int x1), some (.int x2), some (.int x3), some (.int x4), some (.int x5)], [], 0, 0)) (M' := (I, J, sm_rf t d)) rfl trivial (sm_W.iteD h (fun hc h => ?_) (fun hc h => ?_))
      · refine sm_W.run (sm_C_mono D) 2 (G := True) (fr' := (4, [some (.ref 21), some (.int x1), some (.int x2), some (.int x3), some (.int x4), some (.int (x5 + (1 : Int32)))], [], 0, 0)) (M' := (I, J, sm_rf t d)) rfl trivial ?_
        exact (hk4 _ _ _ _ _ h)
      · obtain ⟨g1, h⟩ := sd_gu_go h
        refine sm_W.run (sm_C_mono D) 6 (G := sm_in x5 14 = true ∧ True) (fr' := (if decide (x2 < (I (21 + 3) (Int32.toNatClampNeg x5))) = true then 31 else 19, [some (.ref 21), some (.int x1), some (.int x2), some (.int x3), some (.int x4), some (.int x5)], [], 0, 0)) (M' := (I, J, sm_rf t d)) rfl ⟨g1, trivial⟩ (sm_W.iteD h (fun hc h => ?_) (fun hc h => ?_))
        · refine sm_W.run (sm_C_mono D) 2 (G := True) (fr' := (4, [some (.ref 21), some (.int x1), some (.int x2), some (.int x3), some (.int x4), some (.int (x5 + (1 : Int32)))], [], 0, 0)) (M' := (I, J, sm_rf t d)) rfl trivial ?_
          exact (hk4 _ _ _ _ _ h)
        · obtain ⟨g2, h⟩ := sd_gu_go h
          refine sm_W.run (sm_C_mono D) 6 (G := sm_in x5 14 = true ∧ True) (fr' := (if decide ((I (21 + 4) (Int32.toNatClampNeg x5)) < x3) = true then 31 else 25, [some (.ref 21), some (.int x1), some (.int x2), some (.int x3), some (.int x4), some (.int x5)], [], 0, 0)) (M' := (I, J, sm_rf t d)) rfl ⟨g2, trivial⟩ (sm_W.iteD h (fun hc h => ?_) (fun hc h => ?_))
          · refine sm_W.run (sm_C_mono D) 2 (G := True) (fr' := (4, [some (.ref 21), some (.int x1), some (.int x2), some (.int x3), some (.int x4), some (.int (x5 + (1 : Int32)))], [], 0, 0)) (M' := (I, J, sm_rf t d)) rfl trivial ?_
            exact (hk4 _ _ _ _ _ h)
          · refine sm_W.runL (sm_C_mono D) 6 (G := True) (e := (x4 ||| ((1 : Int32) <<< (x5 &&& 31)))) (fr' := fun a3 => (31, [some (.ref 21), some (.int x1), some (.int x2), some (.int x3), some (.int a3), some (.int x5)], [], 0, 0)) (M' := fun _ => (I, J, sm_rf t d)) rfl h trivial (fun a3 h => ?_)
            refine sm_W.run (sm_C_mono D) 2 (G := True) (fr' := (4, [some (.ref 21), some (.int x1), some (.int x2), some (.int x3), some (.int a3), some (.int (x5 + (1 : Int32)))], [], 0, 0)) (M' := (I, J, sm_rf t d)) rfl trivial ?_
            exact (hk4 _ _ _ _ _ h)
  · skip
    refine sm_W.run (sm_C_mono D) 3 (G := True) (fr' := (if decide ((14 : Int32) ≤ x5) = true then 33 else 7, [some (.ref 41), some (.int x1), some (.int x2), some (.int x3), some (.int x4), some (.int x5)], [], 0, 0)) (M' := (I, J, sm_rf t d)) rfl trivial (sm_W.iteD h (fun hc h => ?_) (fun hc h => ?_))
    · refine sm_W.run (sm_C_mono D) 1 (G := True) (fr' := (34, [some (.ref 41), some (.int x1), some (.int x2), some (.int x3), some (.int x4), some (.int x5)], [.int x4], 0, 0)) (M' := (I, J, sm_rf t d)) rfl trivial ?_
      cases h
      exact sm_W.ret (sm_C_mono D) rfl hQ
    · refine sm_W.run (sm_C_mono D) 6 (G := True) (fr' := (if decide (((x1 >>> (x5 &&& 31)) &&& (1 : Int32)) = 0) = true then 31 else 13, [some (.ref 41), some (.int x1), some (.int x2), some (.int x3), some (.int x4), some (.int x5)], [], 0, 0)) (M' := (I, J, sm_rf t d)) rfl trivial (sm_W.iteD h (fun hc h => ?_) (fun hc h => ?_))
      · refine sm_W.run (sm_C_mono D) 2 (G := True) (fr' := (4, [some (.ref 41), some (.int x1), some (.int x2), some (.int x3), some (.int x4), some (.int (x5 + (1 : Int32)))], [], 0, 0)) (M' := (I, J, sm_rf t d)) rfl trivial ?_
        exact (hk4 _ _ _ _ _ h)
      · obtain ⟨g1, h⟩ := sd_gu_go h
        refine sm_W.run (sm_C_mono D) 6 (G := sm_in x5 14 = true ∧ True) (fr' := (if decide (x2 < (I (41 + 3) (Int32.toNatClampNeg x5))) = true then 31 else 19, [some (.ref 41), some (.int x1), some (.int x2), some (.int x3), some (.int x4), some (.int x5)], [], 0, 0)) (M' := (I, J, sm_rf t d)) rfl ⟨g1, trivial⟩ (sm_W.iteD h (fun hc h => ?_) (fun hc h => ?_))
        · refine sm_W.run (sm_C_mono D) 2 (G := True) (fr' := (4, [some (.ref 41), some (.int x1), some (.int x2), some (.int x3), some (.int x4), some (.int (x5 + (1 : Int32)))], [], 0, 0)) (M' := (I, J, sm_rf t d)) rfl trivial ?_
          exact (hk4 _ _ _ _ _ h)
        · obtain ⟨g2, h⟩ := sd_gu_go h
          refine sm_W.run (sm_C_mono D) 6 (G := sm_in x5 14 = true ∧ True) (fr' := (if decide ((I (41 + 4) (Int32.toNatClampNeg x5)) < x3) = true then 31 else 25, [some (.ref 41), some (.int x1), some (.int x2), some (.int x3), some (.int x4), some (.int x5)], [], 0, 0)) (M' := (I, J, sm_rf t d)) rfl ⟨g2, trivial⟩ (sm_W.iteD h (fun hc h => ?_) (fun hc h => ?_))
          · refine sm_W.run (sm_C_mono D) 2 (G := True) (fr' := (4, [some (.ref 41), some (.int x1), some (.int x2), some (.int x3), some (.int x4), some (.int (x5 + (1 : Int32)))], [], 0, 0)) (M' := (I, J, sm_rf t d)) rfl trivial ?_
            exact (hk4 _ _ _ _ _ h)
          · refine sm_W.runL (sm_C_mono D) 6 (G := True) (e := (x4 ||| ((1 : Int32) <<< (x5 &&& 31)))) (fr' := fun a3 => (31, [some (.ref 41), some (.int x1), some (.int x2), some (.int x3), some (.int a3), some (.int x5)], [], 0, 0)) (M' := fun _ => (I, J, sm_rf t d)) rfl h trivial (fun a3 h => ?_)
            refine sm_W.run (sm_C_mono D) 2 (G := True) (fr' := (4, [some (.ref 41), some (.int x1), some (.int x2), some (.int x3), some (.int a3), some (.int (x5 + (1 : Int32)))], [], 0, 0)) (M' := (I, J, sm_rf t d)) rfl trivial ?_
            exact (hk4 _ _ _ _ _ h)
theorem G_Valley_reaching_4 {X : Nat × (Nat → Int32)} {t d D : Nat} {Q : sm_Q} {I : sm_MI} {J : sm_MJ} {p0 : Nat} {rz : Int32}
    (hD : 0 ≤ D) (hp : (p0 = 21) ∨ (p0 = 41)) (hQ : Q (.inl (some (.int rz))) (I, J, sm_rf t d))  : ∀ (n : Nat) (x1 : Int32) (x2 : Int32) (x3 : Int32) (x4 : Int32) (x5 : Int32), F_Valley_reaching_4 p0 I n x1 x2 x3 x4 x5 = some (rz) → sm_W sm_sh X (sm_C sm_sh X sm_P D) me_85 Q (4, [some (.ref p0), some (.int x1), some (.int x2), some (.int x3), some (.int x4), some (.int x5)], [], 0, 0) (I, J, sm_rf t d) := by
  intro n
  induction n with
  | zero => intro x1 x2 x3 x4 x5 h; cases (show (none : Option (Int32)) = some (rz) from h)
  | succ n ih => intro x1 x2 x3 x4 x5 h; exact G_Valley_reaching_4B hD hp (show F_Valley_reaching_4B p0 (F_Valley_reaching_4 p0 I n) x1 x2 x3 x4 x5 I = some (rz) from h) hQ  ih
theorem G_Valley_reaching {X : Nat × (Nat → Int32)} {t d D : Nat} {Q : sm_Q} {I : sm_MI} {J : sm_MJ} {p0 : Nat} {x1 : Int32} {x2 : Int32} {x3 : Int32} {rz : Int32}
    (hD : 0 ≤ D) (hp : (p0 = 21) ∨ (p0 = 41)) (h : F_Valley_reaching p0 x1 x2 x3 I = some (rz)) (hQ : Q (.inl (some (.int rz))) (I, J, sm_rf t d))  : sm_W sm_sh X (sm_C sm_sh X sm_P D) me_85 Q (0, [some (.ref p0), some (.int x1), some (.int x2), some (.int x3), none, none], [], 0, 0) (I, J, sm_rf t d) := by
  unfold F_Valley_reaching at h
  rcases hp with rfl | rfl
  · skip
    refine sm_W.run (sm_C_mono D) 4 (G := True) (fr' := (4, [some (.ref 21), some (.int x1), some (.int x2), some (.int x3), some (.int (0 : Int32)), some (.int (0 : Int32))], [], 0, 0)) (M' := (I, J, sm_rf t d)) rfl trivial ?_
    exact (G_Valley_reaching_4 hD (by decide) hQ sd_fu _ _ _ _ _ h)
  · skip
    refine sm_W.run (sm_C_mono D) 4 (G := True) (fr' := (4, [some (.ref 41), some (.int x1), some (.int x2), some (.int x3), some (.int (0 : Int32)), some (.int (0 : Int32))], [], 0, 0)) (M' := (I, J, sm_rf t d)) rfl trivial ?_
    exact (G_Valley_reaching_4 hD (by decide) hQ sd_fu _ _ _ _ _ h)
theorem T_Valley_reaching {X : Nat × (Nat → Int32)} {t d D : Nat} {Q : sm_Q} {I : sm_MI} {J : sm_MJ} {p0 : Nat} {x1 : Int32} {x2 : Int32} {x3 : Int32} {rz : Int32}
    (hD : 1 ≤ D) (hp : (p0 = 21) ∨ (p0 = 41)) (h : F_Valley_reaching p0 x1 x2 x3 I = some (rz)) (hQ : Q (.inl (some (.int rz))) (I, J, sm_rf t d)) : sm_C sm_sh X sm_P D 85 [.ref p0, .int x1, .int x2, .int x3] (I, J, sm_rf t d) Q := by
  cases D with
  | zero => omega
  | succ D => exact sm_C.of (me := me_85) (L := [some (.ref p0), some (.int x1), some (.int x2), some (.int x3), none, none]) rfl rfl rfl (sm_W.forget (L' := [some (.ref p0), some (.int x1), some (.int x2), some (.int x3), none, none]) ⟨rfl, ⟨rfl, ⟨rfl, ⟨rfl, trivial⟩⟩⟩⟩ (G_Valley_reaching (by omega) hp h hQ))
-- 268 Int_bitCount
noncomputable def F_Int_bitCount (x0 : Int32) : Option (Int32) :=
  sd_lt (x0 - ((sd_ush x0 (1 : Int32)) &&& (1431655765 : Int32))) fun a1 =>
  sd_lt ((a1 &&& (858993459 : Int32)) + ((sd_ush a1 (2 : Int32)) &&& (858993459 : Int32))) fun a2 =>
  sd_lt ((a2 + (sd_ush a2 (4 : Int32))) &&& (252645135 : Int32)) fun a3 =>
  sd_lt (a3 + (sd_ush a3 (8 : Int32))) fun a4 =>
  sd_lt (a4 + (sd_ush a4 (16 : Int32))) fun a5 =>
  some ((a5 &&& (63 : Int32)))
theorem G_Int_bitCount {X : Nat × (Nat → Int32)} {t d D : Nat} {Q : sm_Q} {I : sm_MI} {J : sm_MJ} {x0 : Int32} {rz : Int32}
    (hD : 0 ≤ D) (h : F_Int_bitCount x0 = some (rz)) (hQ : Q (.inl (some (.int rz))) (I, J, sm_rf t d))  : sm_W sm_sh X (sm_C sm_sh X sm_P D) me_268 Q (0, [some (.int x0)], [], 0, 0) (I, J, sm_rf t d) := by
  unfold F_Int_bitCount at h
  refine sm_W.runL (sm_C_mono D) 8 (G := True) (e := (x0 - ((sd_ush x0 (1 : Int32)) &&& (1431655765 : Int32)))) (fr' := fun a1 => (8, [some (.int a1)], [], 0, 0)) (M' := fun _ => (I, J, sm_rf t d)) rfl h trivial (fun a1 h => ?_)
  refine sm_W.runL (sm_C_mono D) 10 (G := True) (e := ((a1 &&& (858993459 : Int32)) + ((sd_ush a1 (2 : Int32)) &&& (858993459 : Int32)))) (fr' := fun a2 => (18, [some (.int a2)], [], 0, 0)) (M' := fun _ => (I, J, sm_rf t d)) rfl h trivial (fun a2 h => ?_)
  refine sm_W.runL (sm_C_mono D) 8 (G := True) (e := ((a2 + (sd_ush a2 (4 : Int32))) &&& (252645135 : Int32))) (fr' := fun a3 => (26, [some (.int a3)], [], 0, 0)) (M' := fun _ => (I, J, sm_rf t d)) rfl h trivial (fun a3 h => ?_)
  refine sm_W.runL (sm_C_mono D) 6 (G := True) (e := (a3 + (sd_ush a3 (8 : Int32)))) (fr' := fun a4 => (32, [some (.int a4)], [], 0, 0)) (M' := fun _ => (I, J, sm_rf t d)) rfl h trivial (fun a4 h => ?_)
  refine sm_W.runL (sm_C_mono D) 6 (G := True) (e := (a4 + (sd_ush a4 (16 : Int32)))) (fr' := fun a5 => (38, [some (.int a5)], [], 0, 0)) (M' := fun _ => (I, J, sm_rf t d)) rfl h trivial (fun a5 h => ?_)
  refine sm_W.run (sm_C_mono D) 3 (G := True) (fr' := (41, [some (.int a5)], [.int (a5 &&& (63 : Int32))], 0, 0)) (M' := (I, J, sm_rf t d)) rfl trivial ?_
  cases h
  exact sm_W.ret (sm_C_mono D) rfl hQ
theorem T_Int_bitCount {X : Nat × (Nat → Int32)} {t d D : Nat} {Q : sm_Q} {I : sm_MI} {J : sm_MJ} {x0 : Int32} {rz : Int32}
    (hD : 1 ≤ D) (h : F_Int_bitCount x0 = some (rz)) (hQ : Q (.inl (some (.int rz))) (I, J, sm_rf t d)) : sm_C sm_sh X sm_P D 268 [.int x0] (I, J, sm_rf t d) Q := by
  cases D with
  | zero => omega
  | succ D => exact sm_C.of (me := me_268) (L := [some (.int x0)]) rfl rfl rfl (sm_W.forget (L' := [some (.int x0)]) ⟨rfl, trivial⟩ (G_Int_bitCount (by omega) h hQ))
-- 270 Math_min
noncomputable def F_Math_min (x0 : Int32) (x1 : Int32) : Option (Int32) :=
  if x1 < x0 then
    some (x1)
  else
    some (x0)
theorem G_Math_min {X : Nat × (Nat → Int32)} {t d D : Nat} {Q : sm_Q} {I : sm_MI} {J : sm_MJ} {x0 : Int32} {x1 : Int32} {rz : Int32}
    (hD : 0 ≤ D) (h : F_Math_min x0 x1 = some (rz)) (hQ : Q (.inl (some (.int rz))) (I, J, sm_rf t d))  : sm_W sm_sh X (sm_C sm_sh X sm_P D) me_270 Q (0, [some (.int x0), some (.int x1)], [], 0, 0) (I, J, sm_rf t d) := by
  unfold F_Math_min at h
  refine sm_W.run (sm_C_mono D) 3 (G := True) (fr' := (if decide (x1 < x0) = true then 5 else 3, [some (.int x0), some (.int x1)], [], 0, 0)) (M' := (I, J, sm_rf t d)) rfl trivial (sm_W.iteD h (fun hc h => ?_) (fun hc h => ?_))
  · refine sm_W.run (sm_C_mono D) 1 (G := True) (fr' := (6, [some (.int x0), some (.int x1)], [.int x1], 0, 0)) (M' := (I, J, sm_rf t d)) rfl trivial ?_
    cases h
    exact sm_W.ret (sm_C_mono D) rfl hQ
  · refine sm_W.run (sm_C_mono D) 2 (G := True) (fr' := (6, [some (.int x0), some (.int x1)], [.int x0], 0, 0)) (M' := (I, J, sm_rf t d)) rfl trivial ?_
    cases h
    exact sm_W.ret (sm_C_mono D) rfl hQ
theorem T_Math_min {X : Nat × (Nat → Int32)} {t d D : Nat} {Q : sm_Q} {I : sm_MI} {J : sm_MJ} {x0 : Int32} {x1 : Int32} {rz : Int32}
    (hD : 1 ≤ D) (h : F_Math_min x0 x1 = some (rz)) (hQ : Q (.inl (some (.int rz))) (I, J, sm_rf t d)) : sm_C sm_sh X sm_P D 270 [.int x0, .int x1] (I, J, sm_rf t d) Q := by
  cases D with
  | zero => omega
  | succ D => exact sm_C.of (me := me_270) (L := [some (.int x0), some (.int x1)]) rfl rfl rfl (sm_W.forget (L' := [some (.int x0), some (.int x1)]) ⟨rfl, ⟨rfl, trivial⟩⟩ (G_Math_min (by omega) h hQ))
-- 1 Choir_rowMoves
noncomputable def F_Choir_rowMoves_9B (p0 : Nat) (k4 : Int32 → Int32 → Int32 → Int32 → Option (Int32)) (k9 : Int32 → Int32 → Int32 → Int32 → Int32 → Option (Int32)) (x1 : Int32) (x2 : Int32) (x3 : Int32) (x4 : Int32) (x5 : Int32) (I : sm_MI) : Option (Int32) :=
  if (14 : Int32) ≤ x5 then
    k4 x1 x2 x3 (x4 + (1 : Int32))
  else
    if ((x1 >>> (x4 &&& 31)) &&& (1 : Int32)) = 0 then
      k9 x1 x2 x3 x4 (x5 + (1 : Int32))
    else
      if ((x1 >>> (x5 &&& 31)) &&& (1 : Int32)) = 0 then
        k9 x1 x2 x3 x4 (x5 + (1 : Int32))
      else
        sd_gu (sm_in x4 14 = true) <|
        sd_lt (I (p0 + 3) (Int32.toNatClampNeg x4)) fun a2 =>
        sd_gu (sm_in x5 14 = true) <|
        sd_lt (I (p0 + 4) (Int32.toNatClampNeg x5)) fun a4 =>
        sd_q1 (F_Valley_reaching p0 x1 a2 a4 I) fun r5 =>
        sd_q1 (F_Int_bitCount r5) fun r6 =>
        sd_gu (sm_in x2 20 = true) <|
        if r6 < (I (p0 + 6) (Int32.toNatClampNeg x2)) then
          k9 x1 x2 x3 x4 (x5 + (1 : Int32))
        else
          sd_q1 (F_Choir_movesInto p0 x2 a2 a4 I) fun r8 =>
          sd_q1 (F_Math_min x3 r8) fun r9 =>
          k9 x1 x2 r9 x4 (x5 + (1 : Int32))
noncomputable def F_Choir_rowMoves_9 (p0 : Nat) (k4 : Int32 → Int32 → Int32 → Int32 → Option (Int32)) (I : sm_MI) (n : Nat) : Int32 → Int32 → Int32 → Int32 → Int32 → Option (Int32) :=
  sd_fix (fun k x1 x2 x3 x4 x5 => F_Choir_rowMoves_9B p0 k4 k x1 x2 x3 x4 x5 I) (fun _ _ _ _ _ => none) n
noncomputable def F_Choir_rowMoves_4B (p0 : Nat) (k4 : Int32 → Int32 → Int32 → Int32 → Option (Int32)) (x1 : Int32) (x2 : Int32) (x3 : Int32) (x4 : Int32) (I : sm_MI) : Option (Int32) :=
  if (14 : Int32) ≤ x4 then
    some (x3)
  else
    F_Choir_rowMoves_9 p0 k4 I sd_fu x1 x2 x3 x4 (0 : Int32)
noncomputable def F_Choir_rowMoves_4 (p0 : Nat) (I : sm_MI) (n : Nat) : Int32 → Int32 → Int32 → Int32 → Option (Int32) :=
  sd_fix (fun k x1 x2 x3 x4 => F_Choir_rowMoves_4B p0 k x1 x2 x3 x4 I) (fun _ _ _ _ => none) n
noncomputable def F_Choir_rowMoves (p0 : Nat) (x1 : Int32) (x2 : Int32) (I : sm_MI) : Option (Int32) :=
  F_Choir_rowMoves_4 p0 I sd_fu x1 x2 (1000 : Int32) (0 : Int32)
theorem G_Choir_rowMoves_9B {X : Nat × (Nat → Int32)} {t d D : Nat} {Q : sm_Q} {I : sm_MI} {J : sm_MJ} {p0 : Nat} {k4 : Int32 → Int32 → Int32 → Int32 → Option (Int32)} {k9 : Int32 → Int32 → Int32 → Int32 → Int32 → Option (Int32)} {x1 : Int32} {x2 : Int32} {x3 : Int32} {x4 : Int32} {x5 : Int32} {rz : Int32}
    (hD : 2 ≤ D) (hp : (p0 = 21) ∨ (p0 = 41)) (h : F_Choir_rowMoves_9B p0 k4 k9 x1 x2 x3 x4 x5 I = some (rz)) (hQ : Q (.inl (some (.int rz))) (I, J, sm_rf t d)) (hk4 : ∀ (x1 : Int32) (x2 : Int32) (x3 : Int32) (x4 : Int32), k4 x1 x2 x3 x4 = some (rz) → sm_W sm_sh X (sm_C sm_sh X sm_P D) me_1 Q (4, [some (.ref p0), some (.int x1), some (.int x2), some (.int x3), some (.int x4), none, none, none, none], [], 0, 0) (I, J, sm_rf t d)) (hk9 : ∀ (x1 : Int32) (x2 : Int32) (x3 : Int32) (x4 : Int32) (x5 : Int32), k9 x1 x2 x3 x4 x5 = some (rz) → sm_W sm_sh X (sm_C sm_sh X sm_P D) me_1 Q (9, [some (.ref p0), some (.int x1), some (.int x2), some (.int x3), some (.int x4), some (.int x5), none, none, none], [], 0, 0) (I, J, sm_rf t d)) : sm_W sm_sh X (sm_C sm_sh X sm_P D) me_1 Q (9, [some (.ref p0), some (.int x1), some (.int x2), some (.int x3), some (.int x4), some (.int x5), none, none, none], [], 0, 0) (I, J, sm_rf t d) := by
  unfold F_Choir_rowMoves_9B at h
  rcases hp with rfl | rfl
  · skip
    refine sm_W.run (sm_C_mono D) 3 (G := True) (fr' := (if decide ((14 : Int32) ≤ x5) = true then 57 else 12, [some (.ref 21), some (.int x1), some (.int x2), some (.int x3), some (.int x4), some (.int x5), none, none, none], [], 0, 0)) (M' := (I, J, sm_rf t d)) rfl trivial (sm_W.iteD h (fun hc h => ?_) (fun hc h => ?_))
    · refine sm_W.run (sm_C_mono D) 2 (G := True) (fr' := (4, [some (.ref 21), some (.int x1), some (.int x2), some (.int x3), some (.int (x4 + (1 : Int32))), some (.int x5), none, none, none], [], 0, 0)) (M' := (I, J, sm_rf t d)) rfl trivial ?_
      exact sm_W.forget (L' := [some (.ref 21), some (.int x1), some (.int x2), some (.int x3), some (.int (x4 + (1 : Int32))), none, none, none, none]) ⟨rfl, ⟨rfl, ⟨rfl, ⟨rfl, ⟨rfl, trivial⟩⟩⟩⟩⟩ (hk4 _ _ _ _ h)
    · refine sm_W.run (sm_C_mono D) 6 (G := True) (fr' := (if decide (((x1 >>> (x4 &&& 31)) &&& (1 : Int32)) = 0) = true then 55 else 18, [some (.ref 21), some (.int x1), some (.int x2), some (.int x3), some (.int x4), some (.int x5), none, none, none], [], 0, 0)) (M' := (I, J, sm_rf t d)) rfl trivial (sm_W.iteD h (fun hc h => ?_) (fun hc h => ?_))
      · refine sm_W.run (sm_C_mono D) 2 (G := True) (fr' := (9, [some (.ref 21), some (.int x1), some (.int x2), some (.int x3), some (.int x4), some (.int (x5 + (1 : Int32))), none, none, none], [], 0, 0)) (M' := (I, J, sm_rf t d)) rfl trivial ?_
        exact (hk9 _ _ _ _ _ h)
      · refine sm_W.run (sm_C_mono D) 6 (G := True) (fr' := (if decide (((x1 >>> (x5 &&& 31)) &&& (1 : Int32)) = 0) = true then 55 else 24, [some (.ref 21), some (.int x1), some (.int x2), some (.int x3), some (.int x4), some (.int x5), none, none, none], [], 0, 0)) (M' := (I, J, sm_rf t d)) rfl trivial (sm_W.iteD h (fun hc h => ?_) (fun hc h => ?_))
        · refine sm_W.run (sm_C_mono D) 2 (G := True) (fr' := (9, [some (.ref 21), some (.int x1), some (.int x2), some (.int x3), some (.int x4), some (.int (x5 + (1 : Int32))), none, none, none], [], 0, 0)) (M' := (I, J, sm_rf t d)) rfl trivial ?_
          exact (hk9 _ _ _ _ _ h)
        · obtain ⟨g1, h⟩ := sd_gu_go h
          refine sm_W.runL (sm_C_mono D) 5 (G := sm_in x4 14 = true ∧ True) (e := (I (21 + 3) (Int32.toNatClampNeg x4))) (fr' := fun a2 => (29, [some (.ref 21), some (.int x1), some (.int x2), some (.int x3), some (.int x4), some (.int x5), some (.int a2), none, none], [], 0, 0)) (M' := fun _ => (I, J, sm_rf t d)) rfl h ⟨g1, trivial⟩ (fun a2 h => ?_)
          obtain ⟨g3, h⟩ := sd_gu_go h
          refine sm_W.runL (sm_C_mono D) 5 (G := sm_in x5 14 = true ∧ True) (e := (I (21 + 4) (Int32.toNatClampNeg x5))) (fr' := fun a4 => (34, [some (.ref 21), some (.int x1), some (.int x2), some (.int x3), some (.int x4), some (.int x5), some (.int a2), some (.int a4), none], [], 0, 0)) (M' := fun _ => (I, J, sm_rf t d)) rfl h ⟨g3, trivial⟩ (fun a4 h => ?_)
          refine sm_W.run (sm_C_mono D) 4 (G := True) (fr' := (38, [some (.ref 21), some (.int x1), some (.int x2), some (.int x3), some (.int x4), some (.int x5), some (.int a2), some (.int a4), none], [.int a4, .int a2, .int x1, .ref 21], 0, 0)) (M' := (I, J, sm_rf t d)) rfl trivial ?_
          obtain ⟨r5, hc, h⟩ := sd_q1_go h
          refine sm_W.cal (sm_C_mono D) (y := 85) (as := [.ref 21, .int x1, .int a2, .int a4]) (fr' := (39, [some (.ref 21), some (.int x1), some (.int x2), some (.int x3), some (.int x4), some (.int x5), some (.int a2), some (.int a4), none], [], 0, 0)) rfl (T_Valley_reaching (by omega) (by decide) hc ?_)
          show sm_W sm_sh X (sm_C sm_sh X sm_P D) me_1 Q (39, [some (.ref 21), some (.int x1), some (.int x2), some (.int x3), some (.int x4), some (.int x5), some (.int a2), some (.int a4), none], [.int r5], 0, 0) (I, J, sm_rf t d)
          refine sm_W.run (sm_C_mono D) 2 (G := True) (fr' := (41, [some (.ref 21), some (.int x1), some (.int x2), some (.int x3), some (.int x4), some (.int x5), some (.int a2), some (.int a4), some (.int r5)], [.int r5], 0, 0)) (M' := (I, J, sm_rf t d)) rfl trivial ?_
          obtain ⟨r6, hc, h⟩ := sd_q1_go h
          refine sm_W.cal (sm_C_mono D) (y := 268) (as := [.int r5]) (fr' := (42, [some (.ref 21), some (.int x1), some (.int x2), some (.int x3), some (.int x4), some (.int x5), some (.int a2), some (.int a4), some (.int r5)], [], 0, 0)) rfl (T_Int_bitCount (by omega) hc ?_)
          show sm_W sm_sh X (sm_C sm_sh X sm_P D) me_1 Q (42, [some (.ref 21), some (.int x1), some (.int x2), some (.int x3), some (.int x4), some (.int x5), some (.int a2), some (.int a4), some (.int r5)], [.int r6], 0, 0) (I, J, sm_rf t d)
          obtain ⟨g7, h⟩ := sd_gu_go h
          refine sm_W.run (sm_C_mono D) 5 (G := sm_in x2 20 = true ∧ True) (fr' := (if decide (r6 < (I (21 + 6) (Int32.toNatClampNeg x2))) = true then 55 else 47, [some (.ref 21), some (.int x1), some (.int x2), some (.int x3), some (.int x4), some (.int x5), some (.int a2), some (.int a4), some (.int r5)], [], 0, 0)) (M' := (I, J, sm_rf t d)) rfl ⟨g7, trivial⟩ (sm_W.iteD h (fun hc h => ?_) (fun hc h => ?_))
          · refine sm_W.run (sm_C_mono D) 2 (G := True) (fr' := (9, [some (.ref 21), some (.int x1), some (.int x2), some (.int x3), some (.int x4), some (.int (x5 + (1 : Int32))), some (.int a2), some (.int a4), some (.int r5)], [], 0, 0)) (M' := (I, J, sm_rf t d)) rfl trivial ?_
            exact sm_W.forget (L' := [some (.ref 21), some (.int x1), some (.int x2), some (.int x3), some (.int x4), some (.int (x5 + (1 : Int32))), none, none, none]) ⟨rfl, ⟨rfl, ⟨rfl, ⟨rfl, ⟨rfl, ⟨rfl, trivial⟩⟩⟩⟩⟩⟩ (hk9 _ _ _ _ _ h)
          · refine sm_W.run (sm_C_mono D) 5 (G := True) (fr' := (52, [some (.ref 21), some (.int x1), some (.int x2), some (.int x3), some (.int x4), some (.int x5), some (.int a2), some (.int a4), some (.int r5)], [.int a4, .int a2, .int x2, .ref 21, .int x3], 0, 0)) (M' := (I, J, sm_rf t d)) rfl trivial ?_
            obtain ⟨r8, hc, h⟩ := sd_q1_go h
            refine sm_W.cal (sm_C_mono D) (y := 2) (as := [.ref 21, .int x2, .int a2, .int a4]) (fr' := (53, [some (.ref 21), some (.int x1), some (.int x2), some (.int x3), some (.int x4), some (.int x5), some (.int a2), some (.int a4), some (.int r5)], [.int x3], 0, 0)) rfl (T_Choir_movesInto (by omega) (by decide) hc ?_)
            show sm_W sm_sh X (sm_C sm_sh X sm_P D) me_1 Q (53, [some (.ref 21), some (.int x1), some (.int x2), some (.int x3), some (.int x4), some (.int x5), some (.int a2), some (.int a4), some (.int r5)], [.int r8, .int x3], 0, 0) (I, J, sm_rf t d)
            obtain ⟨r9, hc, h⟩ := sd_q1_go h
            refine sm_W.cal (sm_C_mono D) (y := 270) (as := [.int x3, .int r8]) (fr' := (54, [some (.ref 21), some (.int x1), some (.int x2), some (.int x3), some (.int x4), some (.int x5), some (.int a2), some (.int a4), some (.int r5)], [], 0, 0)) rfl (T_Math_min (by omega) hc ?_)
            show sm_W sm_sh X (sm_C sm_sh X sm_P D) me_1 Q (54, [some (.ref 21), some (.int x1), some (.int x2), some (.int x3), some (.int x4), some (.int x5), some (.int a2), some (.int a4), some (.int r5)], [.int r9], 0, 0) (I, J, sm_rf t d)
            refine sm_W.run (sm_C_mono D) 3 (G := True) (fr' := (9, [some (.ref 21), some (.int x1), some (.int x2), some (.int r9), some (.int x4), some (.int (x5 + (1 : Int32))), some (.int a2), some (.int a4), some (.int r5)], [], 0, 0)) (M' := (I, J, sm_rf t d)) rfl trivial ?_
            exact sm_W.forget (L' := [some (.ref 21), some (.int x1), some (.int x2), some (.int r9), some (.int x4), some (.int (x5 + (1 : Int32))), none, none, none]) ⟨rfl, ⟨rfl, ⟨rfl, ⟨rfl, ⟨rfl, ⟨rfl, trivial⟩⟩⟩⟩⟩⟩ (hk9 _ _ _ _ _ h)
  · skip
    refine sm_W.run (sm_C_mono D) 3 (G := True) (fr' := (if decide ((14 : Int32) ≤ x5) = true then 57 else 12, [some (.ref 41), some (.int x1), some (.int x2), some (.int x3), some (.int x4), some (.int x5), none, none, none], [], 0, 0)) (M' := (I, J, sm_rf t d)) rfl trivial (sm_W.iteD h (fun hc h => ?_) (fun hc h => ?_))
    · refine sm_W.run (sm_C_mono D) 2 (G := True) (fr' := (4, [some (.ref 41), some (.int x1), some (.int x2), some (.int x3), some (.int (x4 + (1 : Int32))), some (.int x5), none, none, none], [], 0, 0)) (M' := (I, J, sm_rf t d)) rfl trivial ?_
      exact sm_W.forget (L' := [some (.ref 41), some (.int x1), some (.int x2), some (.int x3), some (.int (x4 + (1 : Int32))), none, none, none, none]) ⟨rfl, ⟨rfl, ⟨rfl, ⟨rfl, ⟨rfl, trivial⟩⟩⟩⟩⟩ (hk4 _ _ _ _ h)
    · refine sm_W.run (sm_C_mono D) 6 (G := True) (fr' := (if decide (((x1 >>> (x4 &&& 31)) &&& (1 : Int32)) = 0) = true then 55 else 18, [some (.ref 41), some (.int x1), some (.int x2), some (.int x3), some (.int x4), some (.int x5), none, none, none], [], 0, 0)) (M' := (I, J, sm_rf t d)) rfl trivial (sm_W.iteD h (fun hc h => ?_) (fun hc h => ?_))
      · refine sm_W.run (sm_C_mono D) 2 (G := True) (fr' := (9, [some (.ref 41), some (.int x1), some (.int x2), some (.int x3), some (.int x4), some (.int (x5 + (1 : Int32))), none, none, none], [], 0, 0)) (M' := (I, J, sm_rf t d)) rfl trivial ?_
        exact (hk9 _ _ _ _ _ h)
      · refine sm_W.run (sm_C_mono D) 6 (G := True) (fr' := (if decide (((x1 >>> (x5 &&& 31)) &&& (1 : Int32)) = 0) = true then 55 else 24, [some (.ref 41), some (.int x1), some (.int x2), some (.int x3), some (.int x4), some (.int x5), none, none, none], [], 0, 0)) (M' := (I, J, sm_rf t d)) rfl trivial (sm_W.iteD h (fun hc h => ?_) (fun hc h => ?_))
        · refine sm_W.run (sm_C_mono D) 2 (G := True) (fr' := (9, [some (.ref 41), some (.int x1), some (.int x2), some (.int x3), some (.int x4), some (.int (x5 + (1 : Int32))), none, none, none], [], 0, 0)) (M' := (I, J, sm_rf t d)) rfl trivial ?_
          exact (hk9 _ _ _ _ _ h)
        · obtain ⟨g1, h⟩ := sd_gu_go h
          refine sm_W.runL (sm_C_mono D) 5 (G := sm_in x4 14 = true ∧ True) (e := (I (41 + 3) (Int32.toNatClampNeg x4))) (fr' := fun a2 => (29, [some (.ref 41), some (.int x1), some (.int x2), some (.int x3), some (.int x4), some (.int x5), some (.int a2), none, none], [], 0, 0)) (M' := fun _ => (I, J, sm_rf t d)) rfl h ⟨g1, trivial⟩ (fun a2 h => ?_)
          obtain ⟨g3, h⟩ := sd_gu_go h
          refine sm_W.runL (sm_C_mono D) 5 (G := sm_in x5 14 = true ∧ True) (e := (I (41 + 4) (Int32.toNatClampNeg x5))) (fr' := fun a4 => (34, [some (.ref 41), some (.int x1), some (.int x2), some (.int x3), some (.int x4), some (.int x5), some (.int a2), some (.int a4), none], [], 0, 0)) (M' := fun _ => (I, J, sm_rf t d)) rfl h ⟨g3, trivial⟩ (fun a4 h => ?_)
          refine sm_W.run (sm_C_mono D) 4 (G := True) (fr' := (38, [some (.ref 41), some (.int x1), some (.int x2), some (.int x3), some (.int x4), some (.int x5), some (.int a2), some (.int a4), none], [.int a4, .int a2, .int x1, .ref 41], 0, 0)) (M' := (I, J, sm_rf t d)) rfl trivial ?_
          obtain ⟨r5, hc, h⟩ := sd_q1_go h
          refine sm_W.cal (sm_C_mono D) (y := 85) (as := [.ref 41, .int x1, .int a2, .int a4]) (fr' := (39, [some (.ref 41), some (.int x1), some (.int x2), some (.int x3), some (.int x4), some (.int x5), some (.int a2), some (.int a4), none], [], 0, 0)) rfl (T_Valley_reaching (by omega) (by decide) hc ?_)
          show sm_W sm_sh X (sm_C sm_sh X sm_P D) me_1 Q (39, [some (.ref 41), some (.int x1), some (.int x2), some (.int x3), some (.int x4), some (.int x5), some (.int a2), some (.int a4), none], [.int r5], 0, 0) (I, J, sm_rf t d)
          refine sm_W.run (sm_C_mono D) 2 (G := True) (fr' := (41, [some (.ref 41), some (.int x1), some (.int x2), some (.int x3), some (.int x4), some (.int x5), some (.int a2), some (.int a4), some (.int r5)], [.int r5], 0, 0)) (M' := (I, J, sm_rf t d)) rfl trivial ?_
          obtain ⟨r6, hc, h⟩ := sd_q1_go h
          refine sm_W.cal (sm_C_mono D) (y := 268) (as := [.int r5]) (fr' := (42, [some (.ref 41), some (.int x1), some (.int x2), some (.int x3), some (.int x4), some (.int x5), some (.int a2), some (.int a4), some (.int r5)], [], 0, 0)) rfl (T_Int_bitCount (by omega) hc ?_)
          show sm_W sm_sh X (sm_C sm_sh X sm_P D) me_1 Q (42, [some (.ref 41), some (.int x1), some (.int x2), some (.int x3), some (.int x4), some (.int x5), some (.int a2), some (.int a4), some (.int r5)], [.int r6], 0, 0) (I, J, sm_rf t d)
          obtain ⟨g7, h⟩ := sd_gu_go h
          refine sm_W.run (sm_C_mono D) 5 (G := sm_in x2 20 = true ∧ True) (fr' := (if decide (r6 < (I (41 + 6) (Int32.toNatClampNeg x2))) = true then 55 else 47, [some (.ref 41), some (.int x1), some (.int x2), some (.int x3), some (.int x4), some (.int x5), some (.int a2), some (.int a4), some (.int r5)], [], 0, 0)) (M' := (I, J, sm_rf t d)) rfl ⟨g7, trivial⟩ (sm_W.iteD h (fun hc h => ?_) (fun hc h => ?_))
          · refine sm_W.run (sm_C_mono D) 2 (G := True) (fr' := (9, [some (.ref 41), some (.int x1), some (.int x2), some (.int x3), some (.int x4), some (.int (x5 + (1 : Int32))), some (.int a2), some (.int a4), some (.int r5)], [], 0, 0)) (M' := (I, J, sm_rf t d)) rfl trivial ?_
            exact sm_W.forget (L' := [some (.ref 41), some (.int x1), some (.int x2), some (.int x3), some (.int x4), some (.int (x5 + (1 : Int32))), none, none, none]) ⟨rfl, ⟨rfl, ⟨rfl, ⟨rfl, ⟨rfl, ⟨rfl, trivial⟩⟩⟩⟩⟩⟩ (hk9 _ _ _ _ _ h)
          · refine sm_W.run (sm_C_mono D) 5 (G := True) (fr' := (52, [some (.ref 41), some (.int x1), some (.int x2), some (.int x3), some (.int x4), some (.int x5), some (.int a2), some (.int a4), some (.int r5)], [.int a4, .int a2, .int x2, .ref 41, .int x3], 0, 0)) (M' := (I, J, sm_rf t d)) rfl trivial ?_
            obtain ⟨r8, hc, h⟩ := sd_q1_go h
            refine sm_W.cal (sm_C_mono D) (y := 2) (as := [.ref 41, .int x2, .int a2, .int a4]) (fr' := (53, [some (.ref 41), some (.int x1), some (.int x2), some (.int x3), some (.int x4), some (.int x5), some (.int a2), some (.int a4), some (.int r5)], [.int x3], 0, 0)) rfl (T_Choir_movesInto (by omega) (by decide) hc ?_)
            show sm_W sm_sh X (sm_C sm_sh X sm_P D) me_1 Q (53, [some (.ref 41), some (.int x1), some (.int x2), some (.int x3), some (.int x4), some (.int x5), some (.int a2), some (.int a4), some (.int r5)], [.int r8, .int x3], 0, 0) (I, J, sm_rf t d)
            obtain ⟨r9, hc, h⟩ := sd_q1_go h
            refine sm_W.cal (sm_C_mono D) (y := 270) (as := [.int x3, .int r8]) (fr' := (54, [some (.ref 41), some (.int x1), some (.int x2), some (.int x3), some (.int x4), some (.int x5), some (.int a2), some (.int a4), some (.int r5)], [], 0, 0)) rfl (T_Math_min (by omega) hc ?_)
            show sm_W sm_sh X (sm_C sm_sh X sm_P D) me_1 Q (54, [some (.ref 41), some (.int x1), some (.int x2), some (.int x3), some (.int x4), some (.int x5), some (.int a2), some (.int a4), some (.int r5)], [.int r9], 0, 0) (I, J, sm_rf t d)
            refine sm_W.run (sm_C_mono D) 3 (G := True) (fr' := (9, [some (.ref 41), some (.int x1), some (.int x2), some (.int r9), some (.int x4), some (.int (x5 + (1 : Int32))), some (.int a2), some (.int a4), some (.int r5)], [], 0, 0)) (M' := (I, J, sm_rf t d)) rfl trivial ?_
            exact sm_W.forget (L' := [some (.ref 41), some (.int x1), some (.int x2), some (.int r9), some (.int x4), some (.int (x5 + (1 : Int32))), none, none, none]) ⟨rfl, ⟨rfl, ⟨rfl, ⟨rfl, ⟨rfl, ⟨rfl, trivial⟩⟩⟩⟩⟩⟩ (hk9 _ _ _ _ _ h)
theorem G_Choir_rowMoves_9 {X : Nat × (Nat → Int32)} {t d D : Nat} {Q : sm_Q} {I : sm_MI} {J : sm_MJ} {p0 : Nat} {k4 : Int32 → Int32 → Int32 → Int32 → Option (Int32)} {rz : Int32}
    (hD : 2 ≤ D) (hp : (p0 = 21) ∨ (p0 = 41)) (hQ : Q (.inl (some (.int rz))) (I, J, sm_rf t d)) (hk4 : ∀ (x1 : Int32) (x2 : Int32) (x3 : Int32) (x4 : Int32), k4 x1 x2 x3 x4 = some (rz) → sm_W sm_sh X (sm_C sm_sh X sm_P D) me_1 Q (4, [some (.ref p0), some (.int x1), some (.int x2), some (.int x3), some (.int x4), none, none, none, none], [], 0, 0) (I, J, sm_rf t d)) : ∀ (n : Nat) (x1 : Int32) (x2 : Int32) (x3 : Int32) (x4 : Int32) (x5 : Int32), F_Choir_rowMoves_9 p0 k4 I n x1 x2 x3 x4 x5 = some (rz) → sm_W sm_sh X (sm_C sm_sh X sm_P D) me_1 Q (9, [some (.ref p0), some (.int x1), some (.int x2), some (.int x3), some (.int x4), some (.int x5), none, none, none], [], 0, 0) (I, J, sm_rf t d) := by
  intro n
  induction n with
  | zero => intro x1 x2 x3 x4 x5 h; cases (show (none : Option (Int32)) = some (rz) from h)
  | succ n ih => intro x1 x2 x3 x4 x5 h; exact G_Choir_rowMoves_9B hD hp (show F_Choir_rowMoves_9B p0 k4 (F_Choir_rowMoves_9 p0 k4 I n) x1 x2 x3 x4 x5 I = some (rz) from h) hQ hk4 ih
theorem G_Choir_rowMoves_4B {X : Nat × (Nat → Int32)} {t d D : Nat} {Q : sm_Q} {I : sm_MI} {J : sm_MJ} {p0 : Nat} {k4 : Int32 → Int32 → Int32 → Int32 → Option (Int32)} {x1 : Int32} {x2 : Int32} {x3 : Int32} {x4 : Int32} {rz : Int32}
    (hD : 2 ≤ D) (hp : (p0 = 21) ∨ (p0 = 41)) (h : F_Choir_rowMoves_4B p0 k4 x1 x2 x3 x4 I = some (rz)) (hQ : Q (.inl (some (.int rz))) (I, J, sm_rf t d)) (hk4 : ∀ (x1 : Int32) (x2 : Int32) (x3 : Int32) (x4 : Int32), k4 x1 x2 x3 x4 = some (rz) → sm_W sm_sh X (sm_C sm_sh X sm_P D) me_1 Q (4, [some (.ref p0), some (.int x1), some (.int x2), some (.int x3), some (.int x4), none, none, none, none], [], 0, 0) (I, J, sm_rf t d)) : sm_W sm_sh X (sm_C sm_sh X sm_P D) me_1 Q (4, [some (.ref p0), some (.int x1), some (.int x2), some (.int x3), some (.int x4), none, none, none, none], [], 0, 0) (I, J, sm_rf t d) := by
  unfold F_Choir_rowMoves_4B at h
  rcases hp with rfl | rfl
  · skip
    refine sm_W.run (sm_C_mono D) 3 (G := True) (fr' := (if decide ((14 : Int32) ≤ x4) = true then 59 else 7, [some (.ref 21), some (.int x1), some (.int x2), some (.int x3), some (.int x4), none, none, none, none], [], 0, 0)) (M' := (I, J, sm_rf t d)) rfl trivial (sm_W.iteD h (fun hc h => ?_) (fun hc h => ?_))
    · refine sm_W.run (sm_C_mono D) 1 (G := True) (fr' := (60, [some (.ref 21), some (.int x1), some (.int x2), some (.int x3), some (.int x4), none, none, none, none], [.int x3], 0, 0)) (M' := (I, J, sm_rf t d)) rfl trivial ?_
      cases h
      exact sm_W.ret (sm_C_mono D) rfl hQ
    · refine sm_W.run (sm_C_mono D) 2 (G := True) (fr' := (9, [some (.ref 21), some (.int x1), some (.int x2), some (.int x3), some (.int x4), some (.int (0 : Int32)), none, none, none], [], 0, 0)) (M' := (I, J, sm_rf t d)) rfl trivial ?_
      exact (G_Choir_rowMoves_9 hD (by decide) hQ hk4 sd_fu _ _ _ _ _ h)
  · skip
    refine sm_W.run (sm_C_mono D) 3 (G := True) (fr' := (if decide ((14 : Int32) ≤ x4) = true then 59 else 7, [some (.ref 41), some (.int x1), some (.int x2), some (.int x3), some (.int x4), none, none, none, none], [], 0, 0)) (M' := (I, J, sm_rf t d)) rfl trivial (sm_W.iteD h (fun hc h => ?_) (fun hc h => ?_))
    · refine sm_W.run (sm_C_mono D) 1 (G := True) (fr' := (60, [some (.ref 41), some (.int x1), some (.int x2), some (.int x3), some (.int x4), none, none, none, none], [.int x3], 0, 0)) (M' := (I, J, sm_rf t d)) rfl trivial ?_
      cases h
      exact sm_W.ret (sm_C_mono D) rfl hQ
    · refine sm_W.run (sm_C_mono D) 2 (G := True) (fr' := (9, [some (.ref 41), some (.int x1), some (.int x2), some (.int x3), some (.int x4), some (.int (0 : Int32)), none, none, none], [], 0, 0)) (M' := (I, J, sm_rf t d)) rfl trivial ?_
      exact (G_Choir_rowMoves_9 hD (by decide) hQ hk4 sd_fu _ _ _ _ _ h)
theorem G_Choir_rowMoves_4 {X : Nat × (Nat → Int32)} {t d D : Nat} {Q : sm_Q} {I : sm_MI} {J : sm_MJ} {p0 : Nat} {rz : Int32}
    (hD : 2 ≤ D) (hp : (p0 = 21) ∨ (p0 = 41)) (hQ : Q (.inl (some (.int rz))) (I, J, sm_rf t d))  : ∀ (n : Nat) (x1 : Int32) (x2 : Int32) (x3 : Int32) (x4 : Int32), F_Choir_rowMoves_4 p0 I n x1 x2 x3 x4 = some (rz) → sm_W sm_sh X (sm_C sm_sh X sm_P D) me_1 Q (4, [some (.ref p0), some (.int x1), some (.int x2), some (.int x3), some (.int x4), none, none, none, none], [], 0, 0) (I, J, sm_rf t d) := by
  intro n
  induction n with
  | zero => intro x1 x2 x3 x4 h; cases (show (none : Option (Int32)) = some (rz) from h)
  | succ n ih => intro x1 x2 x3 x4 h; exact G_Choir_rowMoves_4B hD hp (show F_Choir_rowMoves_4B p0 (F_Choir_rowMoves_4 p0 I n) x1 x2 x3 x4 I = some (rz) from h) hQ  ih
theorem G_Choir_rowMoves {X : Nat × (Nat → Int32)} {t d D : Nat} {Q : sm_Q} {I : sm_MI} {J : sm_MJ} {p0 : Nat} {x1 : Int32} {x2 : Int32} {rz : Int32}
    (hD : 2 ≤ D) (hp : (p0 = 21) ∨ (p0 = 41)) (h : F_Choir_rowMoves p0 x1 x2 I = some (rz)) (hQ : Q (.inl (some (.int rz))) (I, J, sm_rf t d))  : sm_W sm_sh X (sm_C sm_sh X sm_P D) me_1 Q (0, [some (.ref p0), some (.int x1), some (.int x2), none, none, none, none, none, none], [], 0, 0) (I, J, sm_rf t d) := by
  unfold F_Choir_rowMoves at h
  rcases hp with rfl | rfl
  · skip
    refine sm_W.run (sm_C_mono D) 4 (G := True) (fr' := (4, [some (.ref 21), some (.int x1), some (.int x2), some (.int (1000 : Int32)), some (.int (0 : Int32)), none, none, none, none], [], 0, 0)) (M' := (I, J, sm_rf t d)) rfl trivial ?_
    exact (G_Choir_rowMoves_4 hD (by decide) hQ sd_fu _ _ _ _ h)
  · skip
    refine sm_W.run (sm_C_mono D) 4 (G := True) (fr' := (4, [some (.ref 41), some (.int x1), some (.int x2), some (.int (1000 : Int32)), some (.int (0 : Int32)), none, none, none, none], [], 0, 0)) (M' := (I, J, sm_rf t d)) rfl trivial ?_
    exact (G_Choir_rowMoves_4 hD (by decide) hQ sd_fu _ _ _ _ h)
theorem T_Choir_rowMoves {X : Nat × (Nat → Int32)} {t d D : Nat} {Q : sm_Q} {I : sm_MI} {J : sm_MJ} {p0 : Nat} {x1 : Int32} {x2 : Int32} {rz : Int32}
    (hD : 3 ≤ D) (hp : (p0 = 21) ∨ (p0 = 41)) (h : F_Choir_rowMoves p0 x1 x2 I = some (rz)) (hQ : Q (.inl (some (.int rz))) (I, J, sm_rf t d)) : sm_C sm_sh X sm_P D 1 [.ref p0, .int x1, .int x2] (I, J, sm_rf t d) Q := by
  cases D with
  | zero => omega
  | succ D => exact sm_C.of (me := me_1) (L := [some (.ref p0), some (.int x1), some (.int x2), none, none, none, none, none, none]) rfl rfl rfl (sm_W.forget (L' := [some (.ref p0), some (.int x1), some (.int x2), none, none, none, none, none, none]) ⟨rfl, ⟨rfl, ⟨rfl, trivial⟩⟩⟩ (G_Choir_rowMoves (by omega) hp h hQ))
-- 84 Valley_ofPart
noncomputable def F_Valley_ofPart (p0 : Nat) (x1 : Int32) (I : sm_MI) : Option (Int32) :=
  if x1 < 0 then
    some ((0 : Int32))
  else
    if (4 : Int32) ≤ x1 then
      some ((0 : Int32))
    else
      sd_gu (sm_in x1 4 = true) <|
      some ((I (p0 + 13) (Int32.toNatClampNeg x1)))
theorem G_Valley_ofPart {X : Nat × (Nat → Int32)} {t d D : Nat} {Q : sm_Q} {I : sm_MI} {J : sm_MJ} {p0 : Nat} {x1 : Int32} {rz : Int32}
    (hD : 0 ≤ D) (hp : (p0 = 21) ∨ (p0 = 41)) (h : F_Valley_ofPart p0 x1 I = some (rz)) (hQ : Q (.inl (some (.int rz))) (I, J, sm_rf t d))  : sm_W sm_sh X (sm_C sm_sh X sm_P D) me_84 Q (0, [some (.ref p0), some (.int x1)], [], 0, 0) (I, J, sm_rf t d) := by
  unfold F_Valley_ofPart at h
  rcases hp with rfl | rfl
  · skip
    refine sm_W.run (sm_C_mono D) 2 (G := True) (fr' := (if decide (x1 < 0) = true then 10 else 2, [some (.ref 21), some (.int x1)], [], 0, 0)) (M' := (I, J, sm_rf t d)) rfl trivial (sm_W.iteD h (fun hc h => ?_) (fun hc h => ?_))
    · refine sm_W.run (sm_C_mono D) 1 (G := True) (fr' := (11, [some (.ref 21), some (.int x1)], [.int (0 : Int32)], 0, 0)) (M' := (I, J, sm_rf t d)) rfl trivial ?_
      cases h
      exact sm_W.ret (sm_C_mono D) rfl hQ
    · refine sm_W.run (sm_C_mono D) 3 (G := True) (fr' := (if decide ((4 : Int32) ≤ x1) = true then 10 else 5, [some (.ref 21), some (.int x1)], [], 0, 0)) (M' := (I, J, sm_rf t d)) rfl trivial (sm_W.iteD h (fun hc h => ?_) (fun hc h => ?_))
      · refine sm_W.run (sm_C_mono D) 1 (G := True) (fr' := (11, [some (.ref 21), some (.int x1)], [.int (0 : Int32)], 0, 0)) (M' := (I, J, sm_rf t d)) rfl trivial ?_
        cases h
        exact sm_W.ret (sm_C_mono D) rfl hQ
      · obtain ⟨g1, h⟩ := sd_gu_go h
        refine sm_W.run (sm_C_mono D) 5 (G := sm_in x1 4 = true ∧ True) (fr' := (11, [some (.ref 21), some (.int x1)], [.int (I (21 + 13) (Int32.toNatClampNeg x1))], 0, 0)) (M' := (I, J, sm_rf t d)) rfl ⟨g1, trivial⟩ ?_
        cases h
        exact sm_W.ret (sm_C_mono D) rfl hQ
  · skip
    refine sm_W.run (sm_C_mono D) 2 (G := True) (fr' := (if decide (x1 < 0) = true then 10 else 2, [some (.ref 41), some (.int x1)], [], 0, 0)) (M' := (I, J, sm_rf t d)) rfl trivial (sm_W.iteD h (fun hc h => ?_) (fun hc h => ?_))
    · refine sm_W.run (sm_C_mono D) 1 (G := True) (fr' := (11, [some (.ref 41), some (.int x1)], [.int (0 : Int32)], 0, 0)) (M' := (I, J, sm_rf t d)) rfl trivial ?_
      cases h
      exact sm_W.ret (sm_C_mono D) rfl hQ
    · refine sm_W.run (sm_C_mono D) 3 (G := True) (fr' := (if decide ((4 : Int32) ≤ x1) = true then 10 else 5, [some (.ref 41), some (.int x1)], [], 0, 0)) (M' := (I, J, sm_rf t d)) rfl trivial (sm_W.iteD h (fun hc h => ?_) (fun hc h => ?_))
      · refine sm_W.run (sm_C_mono D) 1 (G := True) (fr' := (11, [some (.ref 41), some (.int x1)], [.int (0 : Int32)], 0, 0)) (M' := (I, J, sm_rf t d)) rfl trivial ?_
        cases h
        exact sm_W.ret (sm_C_mono D) rfl hQ
      · obtain ⟨g1, h⟩ := sd_gu_go h
        refine sm_W.run (sm_C_mono D) 5 (G := sm_in x1 4 = true ∧ True) (fr' := (11, [some (.ref 41), some (.int x1)], [.int (I (41 + 13) (Int32.toNatClampNeg x1))], 0, 0)) (M' := (I, J, sm_rf t d)) rfl ⟨g1, trivial⟩ ?_
        cases h
        exact sm_W.ret (sm_C_mono D) rfl hQ
theorem T_Valley_ofPart {X : Nat × (Nat → Int32)} {t d D : Nat} {Q : sm_Q} {I : sm_MI} {J : sm_MJ} {p0 : Nat} {x1 : Int32} {rz : Int32}
    (hD : 1 ≤ D) (hp : (p0 = 21) ∨ (p0 = 41)) (h : F_Valley_ofPart p0 x1 I = some (rz)) (hQ : Q (.inl (some (.int rz))) (I, J, sm_rf t d)) : sm_C sm_sh X sm_P D 84 [.ref p0, .int x1] (I, J, sm_rf t d) Q := by
  cases D with
  | zero => omega
  | succ D => exact sm_C.of (me := me_84) (L := [some (.ref p0), some (.int x1)]) rfl rfl rfl (sm_W.forget (L' := [some (.ref p0), some (.int x1)]) ⟨rfl, ⟨rfl, trivial⟩⟩ (G_Valley_ofPart (by omega) hp h hQ))
-- 0 Choir_fewestMoves
noncomputable def F_Choir_fewestMoves_6B (p0 : Nat) (k6 : Int32 → Int32 → Int32 → Int32 → Int32 → Option (Int32)) (x1 : Int32) (x2 : Int32) (x3 : Int32) (x4 : Int32) (x5 : Int32) (I : sm_MI) : Option (Int32) :=
  if (4 : Int32) ≤ x5 then
    if x4 = 0 then
      some ((-1 : Int32))
    else
      if (1000 : Int32) ≤ x3 then
        some ((-1 : Int32))
      else
        some (x3)
  else
    sd_lt ((x2 * (4 : Int32)) + x5) fun a1 =>
    sd_gu (sm_in a1 20 = true) <|
    if (I (p0 + 6) (Int32.toNatClampNeg a1)) ≤ 0 then
      k6 x1 x2 x3 x4 (x5 + (1 : Int32))
    else
      sd_q1 (F_Valley_ofPart p0 x5 I) fun r3 =>
      sd_q1 (F_Choir_rowMoves p0 (r3 &&& x1) a1 I) fun r4 =>
      sd_lt (x3 + r4) fun a5 =>
      k6 x1 x2 a5 (1 : Int32) (x5 + (1 : Int32))
noncomputable def F_Choir_fewestMoves_6 (p0 : Nat) (I : sm_MI) (n : Nat) : Int32 → Int32 → Int32 → Int32 → Int32 → Option (Int32) :=
  sd_fix (fun k x1 x2 x3 x4 x5 => F_Choir_fewestMoves_6B p0 k x1 x2 x3 x4 x5 I) (fun _ _ _ _ _ => none) n
noncomputable def F_Choir_fewestMoves (p0 : Nat) (x1 : Int32) (x2 : Int32) (I : sm_MI) : Option (Int32) :=
  F_Choir_fewestMoves_6 p0 I sd_fu x1 x2 (0 : Int32) (0 : Int32) (0 : Int32)
theorem G_Choir_fewestMoves_6B {X : Nat × (Nat → Int32)} {t d D : Nat} {Q : sm_Q} {I : sm_MI} {J : sm_MJ} {p0 : Nat} {k6 : Int32 → Int32 → Int32 → Int32 → Int32 → Option (Int32)} {x1 : Int32} {x2 : Int32} {x3 : Int32} {x4 : Int32} {x5 : Int32} {rz : Int32}
    (hD : 3 ≤ D) (hp : (p0 = 21) ∨ (p0 = 41)) (h : F_Choir_fewestMoves_6B p0 k6 x1 x2 x3 x4 x5 I = some (rz)) (hQ : Q (.inl (some (.int rz))) (I, J, sm_rf t d)) (hk6 : ∀ (x1 : Int32) (x2 : Int32) (x3 : Int32) (x4 : Int32) (x5 : Int32), k6 x1 x2 x3 x4 x5 = some (rz) → sm_W sm_sh X (sm_C sm_sh X sm_P D) me_0 Q (6, [some (.ref p0), some (.int x1), some (.int x2), some (.int x3), some (.int x4), some (.int x5), none], [], 0, 0) (I, J, sm_rf t d)) : sm_W sm_sh X (sm_C sm_sh X sm_P D) me_0 Q (6, [some (.ref p0), some (.int x1), some (.int x2), some (.int x3), some (.int x4), some (.int x5), none], [], 0, 0) (I, J, sm_rf t d) := by
  unfold F_Choir_fewestMoves_6B at h
  rcases hp with rfl | rfl
  · skip
    refine sm_W.run (sm_C_mono D) 3 (G := True) (fr' := (if decide ((4 : Int32) ≤ x5) = true then 35 else 9, [some (.ref 21), some (.int x1), some (.int x2), some (.int x3), some (.int x4), some (.int x5), none], [], 0, 0)) (M' := (I, J, sm_rf t d)) rfl trivial (sm_W.iteD h (fun hc h => ?_) (fun hc h => ?_))
    · refine sm_W.run (sm_C_mono D) 2 (G := True) (fr' := (if decide (x4 = 0) = true then 42 else 37, [some (.ref 21), some (.int x1), some (.int x2), some (.int x3), some (.int x4), some (.int x5), none], [], 0, 0)) (M' := (I, J, sm_rf t d)) rfl trivial (sm_W.iteD h (fun hc h => ?_) (fun hc h => ?_))
      · refine sm_W.run (sm_C_mono D) 1 (G := True) (fr' := (43, [some (.ref 21), some (.int x1), some (.int x2), some (.int x3), some (.int x4), some (.int x5), none], [.int (-1 : Int32)], 0, 0)) (M' := (I, J, sm_rf t d)) rfl trivial ?_
        cases h
        exact sm_W.ret (sm_C_mono D) rfl hQ
      · refine sm_W.run (sm_C_mono D) 3 (G := True) (fr' := (if decide ((1000 : Int32) ≤ x3) = true then 42 else 40, [some (.ref 21), some (.int x1), some (.int x2), some (.int x3), some (.int x4), some (.int x5), none], [], 0, 0)) (M' := (I, J, sm_rf t d)) rfl trivial (sm_W.iteD h (fun hc h => ?_) (fun hc h => ?_))
        · refine sm_W.run (sm_C_mono D) 1 (G := True) (fr' := (43, [some (.ref 21), some (.int x1), some (.int x2), some (.int x3), some (.int x4), some (.int x5), none], [.int (-1 : Int32)], 0, 0)) (M' := (I, J, sm_rf t d)) rfl trivial ?_
          cases h
          exact sm_W.ret (sm_C_mono D) rfl hQ
        · refine sm_W.run (sm_C_mono D) 2 (G := True) (fr' := (43, [some (.ref 21), some (.int x1), some (.int x2), some (.int x3), some (.int x4), some (.int x5), none], [.int x3], 0, 0)) (M' := (I, J, sm_rf t d)) rfl trivial ?_
          cases h
          exact sm_W.ret (sm_C_mono D) rfl hQ
    · refine sm_W.runL (sm_C_mono D) 6 (G := True) (e := ((x2 * (4 : Int32)) + x5)) (fr' := fun a1 => (15, [some (.ref 21), some (.int x1), some (.int x2), some (.int x3), some (.int x4), some (.int x5), some (.int a1)], [], 0, 0)) (M' := fun _ => (I, J, sm_rf t d)) rfl h trivial (fun a1 h => ?_)
      obtain ⟨g2, h⟩ := sd_gu_go h
      refine sm_W.run (sm_C_mono D) 5 (G := sm_in a1 20 = true ∧ True) (fr' := (if decide ((I (21 + 6) (Int32.toNatClampNeg a1)) ≤ 0) = true then 33 else 20, [some (.ref 21), some (.int x1), some (.int x2), some (.int x3), some (.int x4), some (.int x5), some (.int a1)], [], 0, 0)) (M' := (I, J, sm_rf t d)) rfl ⟨g2, trivial⟩ (sm_W.iteD h (fun hc h => ?_) (fun hc h => ?_))
      · refine sm_W.run (sm_C_mono D) 2 (G := True) (fr' := (6, [some (.ref 21), some (.int x1), some (.int x2), some (.int x3), some (.int x4), some (.int (x5 + (1 : Int32))), some (.int a1)], [], 0, 0)) (M' := (I, J, sm_rf t d)) rfl trivial ?_
        exact sm_W.forget (L' := [some (.ref 21), some (.int x1), some (.int x2), some (.int x3), some (.int x4), some (.int (x5 + (1 : Int32))), none]) ⟨rfl, ⟨rfl, ⟨rfl, ⟨rfl, ⟨rfl, ⟨rfl, trivial⟩⟩⟩⟩⟩⟩ (hk6 _ _ _ _ _ h)
      · refine sm_W.run (sm_C_mono D) 6 (G := True) (fr' := (26, [some (.ref 21), some (.int x1), some (.int x2), some (.int x3), some (.int (1 : Int32)), some (.int x5), some (.int a1)], [.int x5, .ref 21, .ref 21, .int x3], 0, 0)) (M' := (I, J, sm_rf t d)) rfl trivial ?_
        obtain ⟨r3, hc, h⟩ := sd_q1_go h
        refine sm_W.cal (sm_C_mono D) (y := 84) (as := [.ref 21, .int x5]) (fr' := (27, [some (.ref 21), some (.int x1), some (.int x2), some (.int x3), some (.int (1 : Int32)), some (.int x5), some (.int a1)], [.ref 21, .int x3], 0, 0)) rfl (T_Valley_ofPart (by omega) (by decide) hc ?_)
        show sm_W sm_sh X (sm_C sm_sh X sm_P D) me_0 Q (27, [some (.ref 21), some (.int x1), some (.int x2), some (.int x3), some (.int (1 : Int32)), some (.int x5), some (.int a1)], [.int r3, .ref 21, .int x3], 0, 0) (I, J, sm_rf t d)
        refine sm_W.run (sm_C_mono D) 3 (G := True) (fr' := (30, [some (.ref 21), some (.int x1), some (.int x2), some (.int x3), some (.int (1 : Int32)), some (.int x5), some (.int a1)], [.int a1, .int (r3 &&& x1), .ref 21, .int x3], 0, 0)) (M' := (I, J, sm_rf t d)) rfl trivial ?_
        obtain ⟨r4, hc, h⟩ := sd_q1_go h
        refine sm_W.cal (sm_C_mono D) (y := 1) (as := [.ref 21, .int (r3 &&& x1), .int a1]) (fr' := (31, [some (.ref 21), some (.int x1), some (.int x2), some (.int x3), some (.int (1 : Int32)), some (.int x5), some (.int a1)], [.int x3], 0, 0)) rfl (T_Choir_rowMoves (by omega) (by decide) hc ?_)
        show sm_W sm_sh X (sm_C sm_sh X sm_P D) me_0 Q (31, [some (.ref 21), some (.int x1), some (.int x2), some (.int x3), some (.int (1 : Int32)), some (.int x5), some (.int a1)], [.int r4, .int x3], 0, 0) (I, J, sm_rf t d)
        refine sm_W.runL (sm_C_mono D) 2 (G := True) (e := (x3 + r4)) (fr' := fun a5 => (33, [some (.ref 21), some (.int x1), some (.int x2), some (.int a5), some (.int (1 : Int32)), some (.int x5), some (.int a1)], [], 0, 0)) (M' := fun _ => (I, J, sm_rf t d)) rfl h trivial (fun a5 h => ?_)
        refine sm_W.run (sm_C_mono D) 2 (G := True) (fr' := (6, [some (.ref 21), some (.int x1), some (.int x2), some (.int a5), some (.int (1 : Int32)), some (.int (x5 + (1 : Int32))), some (.int a1)], [], 0, 0)) (M' := (I, J, sm_rf t d)) rfl trivial ?_
        exact sm_W.forget (L' := [some (.ref 21), some (.int x1), some (.int x2), some (.int a5), some (.int (1 : Int32)), some (.int (x5 + (1 : Int32))), none]) ⟨rfl, ⟨rfl, ⟨rfl, ⟨rfl, ⟨rfl, ⟨rfl, trivial⟩⟩⟩⟩⟩⟩ (hk6 _ _ _ _ _ h)
  · skip
    refine sm_W.run (sm_C_mono D) 3 (G := True) (fr' := (if decide ((4 : Int32) ≤ x5) = true then 35 else 9, [some (.ref 41), some (.int x1), some (.int x2), some (.int x3), some (.int x4), some (.int x5), none], [], 0, 0)) (M' := (I, J, sm_rf t d)) rfl trivial (sm_W.iteD h (fun hc h => ?_) (fun hc h => ?_))
    · refine sm_W.run (sm_C_mono D) 2 (G := True) (fr' := (if decide (x4 = 0) = true then 42 else 37, [some (.ref 41), some (.int x1), some (.int x2), some (.int x3), some (.int x4), some (.int x5), none], [], 0, 0)) (M' := (I, J, sm_rf t d)) rfl trivial (sm_W.iteD h (fun hc h => ?_) (fun hc h => ?_))
      · refine sm_W.run (sm_C_mono D) 1 (G := True) (fr' := (43, [some (.ref 41), some (.int x1), some (.int x2), some (.int x3), some (.int x4), some (.int x5), none], [.int (-1 : Int32)], 0, 0)) (M' := (I, J, sm_rf t d)) rfl trivial ?_
        cases h
        exact sm_W.ret (sm_C_mono D) rfl hQ
      · refine sm_W.run (sm_C_mono D) 3 (G := True) (fr' := (if decide ((1000 : Int32) ≤ x3) = true then 42 else 40, [some (.ref 41), some (.int x1), some (.int x2), some (.int x3), some (.int x4), some (.int x5), none], [], 0, 0)) (M' := (I, J, sm_rf t d)) rfl trivial (sm_W.iteD h (fun hc h => ?_) (fun hc h => ?_))
        · refine sm_W.run (sm_C_mono D) 1 (G := True) (fr' := (43, [some (.ref 41), some (.int x1), some (.int x2), some (.int x3), some (.int x4), some (.int x5), none], [.int (-1 : Int32)], 0, 0)) (M' := (I, J, sm_rf t d)) rfl trivial ?_
          cases h
          exact sm_W.ret (sm_C_mono D) rfl hQ
        · refine sm_W.run (sm_C_mono D) 2 (G := True) (fr' := (43, [some (.ref 41), some (.int x1), some (.int x2), some (.int x3), some (.int x4), some (.int x5), none], [.int x3], 0, 0)) (M' := (I, J, sm_rf t d)) rfl trivial ?_
          cases h
          exact sm_W.ret (sm_C_mono D) rfl hQ
    · refine sm_W.runL (sm_C_mono D) 6 (G := True) (e := ((x2 * (4 : Int32)) + x5)) (fr' := fun a1 => (15, [some (.ref 41), some (.int x1), some (.int x2), some (.int x3), some (.int x4), some (.int x5), some (.int a1)], [], 0, 0)) (M' := fun _ => (I, J, sm_rf t d)) rfl h trivial (fun a1 h => ?_)
      obtain ⟨g2, h⟩ := sd_gu_go h
      refine sm_W.run (sm_C_mono D) 5 (G := sm_in a1 20 = true ∧ True) (fr' := (if decide ((I (41 + 6) (Int32.toNatClampNeg a1)) ≤ 0) = true then 33 else 20, [some (.ref 41), some (.int x1), some (.int x2), some (.int x3), some (.int x4), some (.int x5), some (.int a1)], [], 0, 0)) (M' := (I, J, sm_rf t d)) rfl ⟨g2, trivial⟩ (sm_W.iteD h (fun hc h => ?_) (fun hc h => ?_))
      · refine sm_W.run (sm_C_mono D) 2 (G := True) (fr' := (6, [some (.ref 41), some (.int x1), some (.int x2), some (.int x3), some (.int x4), some (.int (x5 + (1 : Int32))), some (.int a1)], [], 0, 0)) (M' := (I, J, sm_rf t d)) rfl trivial ?_
        exact sm_W.forget (L' := [some (.ref 41), some (.int x1), some (.int x2), some (.int x3), some (.int x4), some (.int (x5 + (1 : Int32))), none]) ⟨rfl, ⟨rfl, ⟨rfl, ⟨rfl, ⟨rfl, ⟨rfl, trivial⟩⟩⟩⟩⟩⟩ (hk6 _ _ _ _ _ h)
      · refine sm_W.run (sm_C_mono D) 6 (G := True) (fr' := (26, [some (.ref 41), some (.int x1), some (.int x2), some (.int x3), some (.int (1 : Int32)), some (.int x5), some (.int a1)], [.int x5, .ref 41, .ref 41, .int x3], 0, 0)) (M' := (I, J, sm_rf t d)) rfl trivial ?_
        obtain ⟨r3, hc, h⟩ := sd_q1_go h
        refine sm_W.cal (sm_C_mono D) (y := 84) (as := [.ref 41, .int x5]) (fr' := (27, [some (.ref 41), some (.int x1), some (.int x2), some (.int x3), some (.int (1 : Int32)), some (.int x5), some (.int a1)], [.ref 41, .int x3], 0, 0)) rfl (T_Valley_ofPart (by omega) (by decide) hc ?_)
        show sm_W sm_sh X (sm_C sm_sh X sm_P D) me_0 Q (27, [some (.ref 41), some (.int x1), some (.int x2), some (.int x3), some (.int (1 : Int32)), some (.int x5), some (.int a1)], [.int r3, .ref 41, .int x3], 0, 0) (I, J, sm_rf t d)
        refine sm_W.run (sm_C_mono D) 3 (G := True) (fr' := (30, [some (.ref 41), some (.int x1), some (.int x2), some (.int x3), some (.int (1 : Int32)), some (.int x5), some (.int a1)], [.int a1, .int (r3 &&& x1), .ref 41, .int x3], 0, 0)) (M' := (I, J, sm_rf t d)) rfl trivial ?_
        obtain ⟨r4, hc, h⟩ := sd_q1_go h
        refine sm_W.cal (sm_C_mono D) (y := 1) (as := [.ref 41, .int (r3 &&& x1), .int a1]) (fr' := (31, [some (.ref 41), some (.int x1), some (.int x2), some (.int x3), some (.int (1 : Int32)), some (.int x5), some (.int a1)], [.int x3], 0, 0)) rfl (T_Choir_rowMoves (by omega) (by decide) hc ?_)
        show sm_W sm_sh X (sm_C sm_sh X sm_P D) me_0 Q (31, [some (.ref 41), some (.int x1), some (.int x2), some (.int x3), some (.int (1 : Int32)), some (.int x5), some (.int a1)], [.int r4, .int x3], 0, 0) (I, J, sm_rf t d)
        refine sm_W.runL (sm_C_mono D) 2 (G := True) (e := (x3 + r4)) (fr' := fun a5 => (33, [some (.ref 41), some (.int x1), some (.int x2), some (.int a5), some (.int (1 : Int32)), some (.int x5), some (.int a1)], [], 0, 0)) (M' := fun _ => (I, J, sm_rf t d)) rfl h trivial (fun a5 h => ?_)
        refine sm_W.run (sm_C_mono D) 2 (G := True) (fr' := (6, [some (.ref 41), some (.int x1), some (.int x2), some (.int a5), some (.int (1 : Int32)), some (.int (x5 + (1 : Int32))), some (.int a1)], [], 0, 0)) (M' := (I, J, sm_rf t d)) rfl trivial ?_
        exact sm_W.forget (L' := [some (.ref 41), some (.int x1), some (.int x2), some (.int a5), some (.int (1 : Int32)), some (.int (x5 + (1 : Int32))), none]) ⟨rfl, ⟨rfl, ⟨rfl, ⟨rfl, ⟨rfl, ⟨rfl, trivial⟩⟩⟩⟩⟩⟩ (hk6 _ _ _ _ _ h)
theorem G_Choir_fewestMoves_6 {X : Nat × (Nat → Int32)} {t d D : Nat} {Q : sm_Q} {I : sm_MI} {J : sm_MJ} {p0 : Nat} {rz : Int32}
    (hD : 3 ≤ D) (hp : (p0 = 21) ∨ (p0 = 41)) (hQ : Q (.inl (some (.int rz))) (I, J, sm_rf t d))  : ∀ (n : Nat) (x1 : Int32) (x2 : Int32) (x3 : Int32) (x4 : Int32) (x5 : Int32), F_Choir_fewestMoves_6 p0 I n x1 x2 x3 x4 x5 = some (rz) → sm_W sm_sh X (sm_C sm_sh X sm_P D) me_0 Q (6, [some (.ref p0), some (.int x1), some (.int x2), some (.int x3), some (.int x4), some (.int x5), none], [], 0, 0) (I, J, sm_rf t d) := by
  intro n
  induction n with
  | zero => intro x1 x2 x3 x4 x5 h; cases (show (none : Option (Int32)) = some (rz) from h)
  | succ n ih => intro x1 x2 x3 x4 x5 h; exact G_Choir_fewestMoves_6B hD hp (show F_Choir_fewestMoves_6B p0 (F_Choir_fewestMoves_6 p0 I n) x1 x2 x3 x4 x5 I = some (rz) from h) hQ  ih
theorem G_Choir_fewestMoves {X : Nat × (Nat → Int32)} {t d D : Nat} {Q : sm_Q} {I : sm_MI} {J : sm_MJ} {p0 : Nat} {x1 : Int32} {x2 : Int32} {rz : Int32}
    (hD : 3 ≤ D) (hp : (p0 = 21) ∨ (p0 = 41)) (h : F_Choir_fewestMoves p0 x1 x2 I = some (rz)) (hQ : Q (.inl (some (.int rz))) (I, J, sm_rf t d))  : sm_W sm_sh X (sm_C sm_sh X sm_P D) me_0 Q (0, [some (.ref p0), some (.int x1), some (.int x2), none, none, none, none], [], 0, 0) (I, J, sm_rf t d) := by
  unfold F_Choir_fewestMoves at h
  rcases hp with rfl | rfl
  · skip
    refine sm_W.run (sm_C_mono D) 6 (G := True) (fr' := (6, [some (.ref 21), some (.int x1), some (.int x2), some (.int (0 : Int32)), some (.int (0 : Int32)), some (.int (0 : Int32)), none], [], 0, 0)) (M' := (I, J, sm_rf t d)) rfl trivial ?_
    exact (G_Choir_fewestMoves_6 hD (by decide) hQ sd_fu _ _ _ _ _ h)
  · skip
    refine sm_W.run (sm_C_mono D) 6 (G := True) (fr' := (6, [some (.ref 41), some (.int x1), some (.int x2), some (.int (0 : Int32)), some (.int (0 : Int32)), some (.int (0 : Int32)), none], [], 0, 0)) (M' := (I, J, sm_rf t d)) rfl trivial ?_
    exact (G_Choir_fewestMoves_6 hD (by decide) hQ sd_fu _ _ _ _ _ h)
theorem T_Choir_fewestMoves {X : Nat × (Nat → Int32)} {t d D : Nat} {Q : sm_Q} {I : sm_MI} {J : sm_MJ} {p0 : Nat} {x1 : Int32} {x2 : Int32} {rz : Int32}
    (hD : 4 ≤ D) (hp : (p0 = 21) ∨ (p0 = 41)) (h : F_Choir_fewestMoves p0 x1 x2 I = some (rz)) (hQ : Q (.inl (some (.int rz))) (I, J, sm_rf t d)) : sm_C sm_sh X sm_P D 0 [.ref p0, .int x1, .int x2] (I, J, sm_rf t d) Q := by
  cases D with
  | zero => omega
  | succ D => exact sm_C.of (me := me_0) (L := [some (.ref p0), some (.int x1), some (.int x2), none, none, none, none]) rfl rfl rfl (sm_W.forget (L' := [some (.ref p0), some (.int x1), some (.int x2), none, none, none, none]) ⟨rfl, ⟨rfl, ⟨rfl, trivial⟩⟩⟩ (G_Choir_fewestMoves (by omega) hp h hQ))
-- 88 Valley_canBeSung
noncomputable def F_Valley_canBeSung_4B (p0 : Nat) (k4 : Int32 → Int32 → Int32 → Int32 → Option (Int32)) (x1 : Int32) (x2 : Int32) (x3 : Int32) (x4 : Int32) (I : sm_MI) : Option (Int32) :=
  if (4 : Int32) ≤ x4 then
    some ((vp_nar .boolean x3))
  else
    sd_lt ((x1 * (4 : Int32)) + x4) fun a1 =>
    sd_gu (sm_in a1 20 = true) <|
    if (I (p0 + 6) (Int32.toNatClampNeg a1)) ≤ 0 then
      k4 x1 x2 x3 (x4 + (1 : Int32))
    else
      sd_gu (sm_in a1 20 = true) <|
      sd_q1 (F_Int_bitCount ((I (p0 + 11) (Int32.toNatClampNeg a1)) &&& x2)) fun r4 =>
      sd_gu (sm_in a1 20 = true) <|
      if (I (p0 + 6) (Int32.toNatClampNeg a1)) ≤ r4 then
        k4 x1 x2 (1 : Int32) (x4 + (1 : Int32))
      else
        some ((0 : Int32))
noncomputable def F_Valley_canBeSung_4 (p0 : Nat) (I : sm_MI) (n : Nat) : Int32 → Int32 → Int32 → Int32 → Option (Int32) :=
  sd_fix (fun k x1 x2 x3 x4 => F_Valley_canBeSung_4B p0 k x1 x2 x3 x4 I) (fun _ _ _ _ => none) n
noncomputable def F_Valley_canBeSung (p0 : Nat) (x1 : Int32) (x2 : Int32) (I : sm_MI) : Option (Int32) :=
  F_Valley_canBeSung_4 p0 I sd_fu x1 x2 (0 : Int32) (0 : Int32)
theorem G_Valley_canBeSung_4B {X : Nat × (Nat → Int32)} {t d D : Nat} {Q : sm_Q} {I : sm_MI} {J : sm_MJ} {p0 : Nat} {k4 : Int32 → Int32 → Int32 → Int32 → Option (Int32)} {x1 : Int32} {x2 : Int32} {x3 : Int32} {x4 : Int32} {rz : Int32}
    (hD : 1 ≤ D) (hp : (p0 = 21) ∨ (p0 = 41)) (h : F_Valley_canBeSung_4B p0 k4 x1 x2 x3 x4 I = some (rz)) (hQ : Q (.inl (some (.int rz))) (I, J, sm_rf t d)) (hk4 : ∀ (x1 : Int32) (x2 : Int32) (x3 : Int32) (x4 : Int32), k4 x1 x2 x3 x4 = some (rz) → sm_W sm_sh X (sm_C sm_sh X sm_P D) me_88 Q (4, [some (.ref p0), some (.int x1), some (.int x2), some (.int x3), some (.int x4), none], [], 0, 0) (I, J, sm_rf t d)) : sm_W sm_sh X (sm_C sm_sh X sm_P D) me_88 Q (4, [some (.ref p0), some (.int x1), some (.int x2), some (.int x3), some (.int x4), none], [], 0, 0) (I, J, sm_rf t d) := by
  unfold F_Valley_canBeSung_4B at h
  rcases hp with rfl | rfl
  · skip
    refine sm_W.run (sm_C_mono D) 3 (G := True) (fr' := (if decide ((4 : Int32) ≤ x4) = true then 36 else 7, [some (.ref 21), some (.int x1), some (.int x2), some (.int x3), some (.int x4), none], [], 0, 0)) (M' := (I, J, sm_rf t d)) rfl trivial (sm_W.iteD h (fun hc h => ?_) (fun hc h => ?_))
    · refine sm_W.run (sm_C_mono D) 1 (G := True) (fr' := (37, [some (.ref 21), some (.int x1), some (.int x2), some (.int x3), some (.int x4), none], [.int x3], 0, 0)) (M' := (I, J, sm_rf t d)) rfl trivial ?_
      cases h
      exact sm_W.ret (sm_C_mono D) rfl hQ
    · refine sm_W.runL (sm_C_mono D) 6 (G := True) (e := ((x1 * (4 : Int32)) + x4)) (fr' := fun a1 => (13, [some (.ref 21), some (.int x1), some (.int x2), some (.int x3), some (.int x4), some (.int a1)], [], 0, 0)) (M' := fun _ => (I, J, sm_rf t d)) rfl h trivial (fun a1 h => ?_)
      obtain ⟨g2, h⟩ := sd_gu_go h
      refine sm_W.run (sm_C_mono D) 5 (G := sm_in a1 20 = true ∧ True) (fr' := (if decide ((I (21 + 6) (Int32.toNatClampNeg a1)) ≤ 0) = true then 34 else 18, [some (.ref 21), some (.int x1), some (.int x2), some (.int x3), some (.int x4), some (.int a1)], [], 0, 0)) (M' := (I, J, sm_rf t d)) rfl ⟨g2, trivial⟩ (sm_W.iteD h (fun hc h => ?_) (fun hc h => ?_))
      · refine sm_W.run (sm_C_mono D) 2 (G := True) (fr' := (4, [some (.ref 21), some (.int x1), some (.int x2), some (.int x3), some (.int (x4 + (1 : Int32))), some (.int a1)], [], 0, 0)) (M' := (I, J, sm_rf t d)) rfl trivial ?_
        exact sm_W.forget (L' := [some (.ref 21), some (.int x1), some (.int x2), some (.int x3), some (.int (x4 + (1 : Int32))), none]) ⟨rfl, ⟨rfl, ⟨rfl, ⟨rfl, ⟨rfl, trivial⟩⟩⟩⟩⟩ (hk4 _ _ _ _ h)
      · obtain ⟨g3, h⟩ := sd_gu_go h
        refine sm_W.run (sm_C_mono D) 6 (G := sm_in a1 20 = true ∧ True) (fr' := (24, [some (.ref 21), some (.int x1), some (.int x2), some (.int x3), some (.int x4), some (.int a1)], [.int ((I (21 + 11) (Int32.toNatClampNeg a1)) &&& x2)], 0, 0)) (M' := (I, J, sm_rf t d)) rfl ⟨g3, trivial⟩ ?_
        obtain ⟨r4, hc, h⟩ := sd_q1_go h
        refine sm_W.cal (sm_C_mono D) (y := 268) (as := [.int ((I (21 + 11) (Int32.toNatClampNeg a1)) &&& x2)]) (fr' := (25, [some (.ref 21), some (.int x1), some (.int x2), some (.int x3), some (.int x4), some (.int a1)], [], 0, 0)) rfl (T_Int_bitCount (by omega) hc ?_)
        show sm_W sm_sh X (sm_C sm_sh X sm_P D) me_88 Q (25, [some (.ref 21), some (.int x1), some (.int x2), some (.int x3), some (.int x4), some (.int a1)], [.int r4], 0, 0) (I, J, sm_rf t d)
        obtain ⟨g5, h⟩ := sd_gu_go h
        refine sm_W.run (sm_C_mono D) 5 (G := sm_in a1 20 = true ∧ True) (fr' := (if decide ((I (21 + 6) (Int32.toNatClampNeg a1)) ≤ r4) = true then 32 else 30, [some (.ref 21), some (.int x1), some (.int x2), some (.int x3), some (.int x4), some (.int a1)], [], 0, 0)) (M' := (I, J, sm_rf t d)) rfl ⟨g5, trivial⟩ (sm_W.iteD h (fun hc h => ?_) (fun hc h => ?_))
        · refine sm_W.run (sm_C_mono D) 4 (G := True) (fr' := (4, [some (.ref 21), some (.int x1), some (.int x2), some (.int (1 : Int32)), some (.int (x4 + (1 : Int32))), some (.int a1)], [], 0, 0)) (M' := (I, J, sm_rf t d)) rfl trivial ?_
          exact sm_W.forget (L' := [some (.ref 21), some (.int x1), some (.int x2), some (.int (1 : Int32)), some (.int (x4 + (1 : Int32))), none]) ⟨rfl, ⟨rfl, ⟨rfl, ⟨rfl, ⟨rfl, trivial⟩⟩⟩⟩⟩ (hk4 _ _ _ _ h)
        · refine sm_W.run (sm_C_mono D) 1 (G := True) (fr' := (31, [some (.ref 21), some (.int x1), some (.int x2), some (.int x3), some (.int x4), some (.int a1)], [.int (0 : Int32)], 0, 0)) (M' := (I, J, sm_rf t d)) rfl trivial ?_
          cases h
          exact sm_W.ret (sm_C_mono D) rfl hQ
  · skip
    refine sm_W.run (sm_C_mono D) 3 (G := True) (fr' := (if decide ((4 : Int32) ≤ x4) = true then 36 else 7, [some (.ref 41), some (.int x1), some (.int x2), some (.int x3), some (.int x4), none], [], 0, 0)) (M' := (I, J, sm_rf t d)) rfl trivial (sm_W.iteD h (fun hc h => ?_) (fun hc h => ?_))
    · refine sm_W.run (sm_C_mono D) 1 (G := True) (fr' := (37, [some (.ref 41), some (.int x1), some (.int x2), some (.int x3), some (.int x4), none], [.int x3], 0, 0)) (M' := (I, J, sm_rf t d)) rfl trivial ?_
      cases h
      exact sm_W.ret (sm_C_mono D) rfl hQ
    · refine sm_W.runL (sm_C_mono D) 6 (G := True) (e := ((x1 * (4 : Int32)) + x4)) (fr' := fun a1 => (13, [some (.ref 41), some (.int x1), some (.int x2), some (.int x3), some (.int x4), some (.int a1)], [], 0, 0)) (M' := fun _ => (I, J, sm_rf t d)) rfl h trivial (fun a1 h => ?_)
      obtain ⟨g2, h⟩ := sd_gu_go h
      refine sm_W.run (sm_C_mono D) 5 (G := sm_in a1 20 = true ∧ True) (fr' := (if decide ((I (41 + 6) (Int32.toNatClampNeg a1)) ≤ 0) = true then 34 else 18, [some (.ref 41), some (.int x1), some (.int x2), some (.int x3), some (.int x4), some (.int a1)], [], 0, 0)) (M' := (I, J, sm_rf t d)) rfl ⟨g2, trivial⟩ (sm_W.iteD h (fun hc h => ?_) (fun hc h => ?_))
      · refine sm_W.run (sm_C_mono D) 2 (G := True) (fr' := (4, [some (.ref 41), some (.int x1), some (.int x2), some (.int x3), some (.int (x4 + (1 : Int32))), some (.int a1)], [], 0, 0)) (M' := (I, J, sm_rf t d)) rfl trivial ?_
        exact sm_W.forget (L' := [some (.ref 41), some (.int x1), some (.int x2), some (.int x3), some (.int (x4 + (1 : Int32))), none]) ⟨rfl, ⟨rfl, ⟨rfl, ⟨rfl, ⟨rfl, trivial⟩⟩⟩⟩⟩ (hk4 _ _ _ _ h)
      · obtain ⟨g3, h⟩ := sd_gu_go h
        refine sm_W.run (sm_C_mono D) 6 (G := sm_in a1 20 = true ∧ True) (fr' := (24, [some (.ref 41), some (.int x1), some (.int x2), some (.int x3), some (.int x4), some (.int a1)], [.int ((I (41 + 11) (Int32.toNatClampNeg a1)) &&& x2)], 0, 0)) (M' := (I, J, sm_rf t d)) rfl ⟨g3, trivial⟩ ?_
        obtain ⟨r4, hc, h⟩ := sd_q1_go h
        refine sm_W.cal (sm_C_mono D) (y := 268) (as := [.int ((I (41 + 11) (Int32.toNatClampNeg a1)) &&& x2)]) (fr' := (25, [some (.ref 41), some (.int x1), some (.int x2), some (.int x3), some (.int x4), some (.int a1)], [], 0, 0)) rfl (T_Int_bitCount (by omega) hc ?_)
        show sm_W sm_sh X (sm_C sm_sh X sm_P D) me_88 Q (25, [some (.ref 41), some (.int x1), some (.int x2), some (.int x3), some (.int x4), some (.int a1)], [.int r4], 0, 0) (I, J, sm_rf t d)
        obtain ⟨g5, h⟩ := sd_gu_go h
        refine sm_W.run (sm_C_mono D) 5 (G := sm_in a1 20 = true ∧ True) (fr' := (if decide ((I (41 + 6) (Int32.toNatClampNeg a1)) ≤ r4) = true then 32 else 30, [some (.ref 41), some (.int x1), some (.int x2), some (.int x3), some (.int x4), some (.int a1)], [], 0, 0)) (M' := (I, J, sm_rf t d)) rfl ⟨g5, trivial⟩ (sm_W.iteD h (fun hc h => ?_) (fun hc h => ?_))
        · refine sm_W.run (sm_C_mono D) 4 (G := True) (fr' := (4, [some (.ref 41), some (.int x1), some (.int x2), some (.int (1 : Int32)), some (.int (x4 + (1 : Int32))), some (.int a1)], [], 0, 0)) (M' := (I, J, sm_rf t d)) rfl trivial ?_
          exact sm_W.forget (L' := [some (.ref 41), some (.int x1), some (.int x2), some (.int (1 : Int32)), some (.int (x4 + (1 : Int32))), none]) ⟨rfl, ⟨rfl, ⟨rfl, ⟨rfl, ⟨rfl, trivial⟩⟩⟩⟩⟩ (hk4 _ _ _ _ h)
        · refine sm_W.run (sm_C_mono D) 1 (G := True) (fr' := (31, [some (.ref 41), some (.int x1), some (.int x2), some (.int x3), some (.int x4), some (.int a1)], [.int (0 : Int32)], 0, 0)) (M' := (I, J, sm_rf t d)) rfl trivial ?_
          cases h
          exact sm_W.ret (sm_C_mono D) rfl hQ
theorem G_Valley_canBeSung_4 {X : Nat × (Nat → Int32)} {t d D : Nat} {Q : sm_Q} {I : sm_MI} {J : sm_MJ} {p0 : Nat} {rz : Int32}
    (hD : 1 ≤ D) (hp : (p0 = 21) ∨ (p0 = 41)) (hQ : Q (.inl (some (.int rz))) (I, J, sm_rf t d))  : ∀ (n : Nat) (x1 : Int32) (x2 : Int32) (x3 : Int32) (x4 : Int32), F_Valley_canBeSung_4 p0 I n x1 x2 x3 x4 = some (rz) → sm_W sm_sh X (sm_C sm_sh X sm_P D) me_88 Q (4, [some (.ref p0), some (.int x1), some (.int x2), some (.int x3), some (.int x4), none], [], 0, 0) (I, J, sm_rf t d) := by
  intro n
  induction n with
  | zero => intro x1 x2 x3 x4 h; cases (show (none : Option (Int32)) = some (rz) from h)
  | succ n ih => intro x1 x2 x3 x4 h; exact G_Valley_canBeSung_4B hD hp (show F_Valley_canBeSung_4B p0 (F_Valley_canBeSung_4 p0 I n) x1 x2 x3 x4 I = some (rz) from h) hQ  ih
theorem G_Valley_canBeSung {X : Nat × (Nat → Int32)} {t d D : Nat} {Q : sm_Q} {I : sm_MI} {J : sm_MJ} {p0 : Nat} {x1 : Int32} {x2 : Int32} {rz : Int32}
    (hD : 1 ≤ D) (hp : (p0 = 21) ∨ (p0 = 41)) (h : F_Valley_canBeSung p0 x1 x2 I = some (rz)) (hQ : Q (.inl (some (.int rz))) (I, J, sm_rf t d))  : sm_W sm_sh X (sm_C sm_sh X sm_P D) me_88 Q (0, [some (.ref p0), some (.int x1), some (.int x2), none, none, none], [], 0, 0) (I, J, sm_rf t d) := by
  unfold F_Valley_canBeSung at h
  rcases hp with rfl | rfl
  · skip
    refine sm_W.run (sm_C_mono D) 4 (G := True) (fr' := (4, [some (.ref 21), some (.int x1), some (.int x2), some (.int (0 : Int32)), some (.int (0 : Int32)), none], [], 0, 0)) (M' := (I, J, sm_rf t d)) rfl trivial ?_
    exact (G_Valley_canBeSung_4 hD (by decide) hQ sd_fu _ _ _ _ h)
  · skip
    refine sm_W.run (sm_C_mono D) 4 (G := True) (fr' := (4, [some (.ref 41), some (.int x1), some (.int x2), some (.int (0 : Int32)), some (.int (0 : Int32)), none], [], 0, 0)) (M' := (I, J, sm_rf t d)) rfl trivial ?_
    exact (G_Valley_canBeSung_4 hD (by decide) hQ sd_fu _ _ _ _ h)
theorem T_Valley_canBeSung {X : Nat × (Nat → Int32)} {t d D : Nat} {Q : sm_Q} {I : sm_MI} {J : sm_MJ} {p0 : Nat} {x1 : Int32} {x2 : Int32} {rz : Int32}
    (hD : 2 ≤ D) (hp : (p0 = 21) ∨ (p0 = 41)) (h : F_Valley_canBeSung p0 x1 x2 I = some (rz)) (hQ : Q (.inl (some (.int rz))) (I, J, sm_rf t d)) : sm_C sm_sh X sm_P D 88 [.ref p0, .int x1, .int x2] (I, J, sm_rf t d) Q := by
  cases D with
  | zero => omega
  | succ D => exact sm_C.of (me := me_88) (L := [some (.ref p0), some (.int x1), some (.int x2), none, none, none]) rfl rfl rfl (sm_W.forget (L' := [some (.ref p0), some (.int x1), some (.int x2), none, none, none]) ⟨rfl, ⟨rfl, ⟨rfl, trivial⟩⟩⟩ (G_Valley_canBeSung (by omega) hp h hQ))
-- 4 Choir_sparable
noncomputable def F_Choir_sparable_11B (p0 : Nat) (k11 : Int32 → Int32 → Int32 → Int32 → Option (Int32)) (x1 : Int32) (x2 : Int32) (x3 : Int32) (x4 : Int32) (I : sm_MI) : Option (Int32) :=
  if (4 : Int32) ≤ x4 then
    some (x3)
  else
    sd_lt ((x2 * (4 : Int32)) + x4) fun a1 =>
    sd_gu (sm_in a1 20 = true) <|
    if (I (p0 + 6) (Int32.toNatClampNeg a1)) ≤ 0 then
      k11 x1 x2 x3 (x4 + (1 : Int32))
    else
      sd_gu (sm_in a1 20 = true) <|
      sd_q1 (F_Int_bitCount ((I (p0 + 11) (Int32.toNatClampNeg a1)) &&& x1)) fun r4 =>
      sd_gu (sm_in a1 20 = true) <|
      sd_q1 (F_Math_min x3 (r4 - (I (p0 + 6) (Int32.toNatClampNeg a1)))) fun r6 =>
      k11 x1 x2 r6 (x4 + (1 : Int32))
noncomputable def F_Choir_sparable_11 (p0 : Nat) (I : sm_MI) (n : Nat) : Int32 → Int32 → Int32 → Int32 → Option (Int32) :=
  sd_fix (fun k x1 x2 x3 x4 => F_Choir_sparable_11B p0 k x1 x2 x3 x4 I) (fun _ _ _ _ => none) n
noncomputable def F_Choir_sparable (p0 : Nat) (x1 : Int32) (x2 : Int32) (I : sm_MI) : Option (Int32) :=
  sd_q1 (F_Valley_canBeSung p0 x2 x1 I) fun r1 =>
  if ¬ r1 = 0 then
    F_Choir_sparable_11 p0 I sd_fu x1 x2 (14 : Int32) (0 : Int32)
  else
    some ((-1 : Int32))
theorem G_Choir_sparable_11B {X : Nat × (Nat → Int32)} {t d D : Nat} {Q : sm_Q} {I : sm_MI} {J : sm_MJ} {p0 : Nat} {k11 : Int32 → Int32 → Int32 → Int32 → Option (Int32)} {x1 : Int32} {x2 : Int32} {x3 : Int32} {x4 : Int32} {rz : Int32}
    (hD : 2 ≤ D) (hp : (p0 = 21) ∨ (p0 = 41)) (h : F_Choir_sparable_11B p0 k11 x1 x2 x3 x4 I = some (rz)) (hQ : Q (.inl (some (.int rz))) (I, J, sm_rf t d)) (hk11 : ∀ (x1 : Int32) (x2 : Int32) (x3 : Int32) (x4 : Int32), k11 x1 x2 x3 x4 = some (rz) → sm_W sm_sh X (sm_C sm_sh X sm_P D) me_4 Q (11, [some (.ref p0), some (.int x1), some (.int x2), some (.int x3), some (.int x4), none, none], [], 0, 0) (I, J, sm_rf t d)) : sm_W sm_sh X (sm_C sm_sh X sm_P D) me_4 Q (11, [some (.ref p0), some (.int x1), some (.int x2), some (.int x3), some (.int x4), none, none], [], 0, 0) (I, J, sm_rf t d) := by
  unfold F_Choir_sparable_11B at h
  rcases hp with rfl | rfl
  · skip
    refine sm_W.run (sm_C_mono D) 3 (G := True) (fr' := (if decide ((4 : Int32) ≤ x4) = true then 44 else 14, [some (.ref 21), some (.int x1), some (.int x2), some (.int x3), some (.int x4), none, none], [], 0, 0)) (M' := (I, J, sm_rf t d)) rfl trivial (sm_W.iteD h (fun hc h => ?_) (fun hc h => ?_))
    · refine sm_W.run (sm_C_mono D) 1 (G := True) (fr' := (45, [some (.ref 21), some (.int x1), some (.int x2), some (.int x3), some (.int x4), none, none], [.int x3], 0, 0)) (M' := (I, J, sm_rf t d)) rfl trivial ?_
      cases h
      exact sm_W.ret (sm_C_mono D) rfl hQ
    · refine sm_W.runL (sm_C_mono D) 6 (G := True) (e := ((x2 * (4 : Int32)) + x4)) (fr' := fun a1 => (20, [some (.ref 21), some (.int x1), some (.int x2), some (.int x3), some (.int x4), some (.int a1), none], [], 0, 0)) (M' := fun _ => (I, J, sm_rf t d)) rfl h trivial (fun a1 h => ?_)
      obtain ⟨g2, h⟩ := sd_gu_go h
      refine sm_W.run (sm_C_mono D) 5 (G := sm_in a1 20 = true ∧ True) (fr' := (if decide ((I (21 + 6) (Int32.toNatClampNeg a1)) ≤ 0) = true then 42 else 25, [some (.ref 21), some (.int x1), some (.int x2), some (.int x3), some (.int x4), some (.int a1), none], [], 0, 0)) (M' := (I, J, sm_rf t d)) rfl ⟨g2, trivial⟩ (sm_W.iteD h (fun hc h => ?_) (fun hc h => ?_))
      · refine sm_W.run (sm_C_mono D) 2 (G := True) (fr' := (11, [some (.ref 21), some (.int x1), some (.int x2), some (.int x3), some (.int (x4 + (1 : Int32))), some (.int a1), none], [], 0, 0)) (M' := (I, J, sm_rf t d)) rfl trivial ?_
        exact sm_W.forget (L' := [some (.ref 21), some (.int x1), some (.int x2), some (.int x3), some (.int (x4 + (1 : Int32))), none, none]) ⟨rfl, ⟨rfl, ⟨rfl, ⟨rfl, ⟨rfl, trivial⟩⟩⟩⟩⟩ (hk11 _ _ _ _ h)
      · obtain ⟨g3, h⟩ := sd_gu_go h
        refine sm_W.run (sm_C_mono D) 6 (G := sm_in a1 20 = true ∧ True) (fr' := (31, [some (.ref 21), some (.int x1), some (.int x2), some (.int x3), some (.int x4), some (.int a1), none], [.int ((I (21 + 11) (Int32.toNatClampNeg a1)) &&& x1)], 0, 0)) (M' := (I, J, sm_rf t d)) rfl ⟨g3, trivial⟩ ?_
        obtain ⟨r4, hc, h⟩ := sd_q1_go h
        refine sm_W.cal (sm_C_mono D) (y := 268) (as := [.int ((I (21 + 11) (Int32.toNatClampNeg a1)) &&& x1)]) (fr' := (32, [some (.ref 21), some (.int x1), some (.int x2), some (.int x3), some (.int x4), some (.int a1), none], [], 0, 0)) rfl (T_Int_bitCount (by omega) hc ?_)
        show sm_W sm_sh X (sm_C sm_sh X sm_P D) me_4 Q (32, [some (.ref 21), some (.int x1), some (.int x2), some (.int x3), some (.int x4), some (.int a1), none], [.int r4], 0, 0) (I, J, sm_rf t d)
        obtain ⟨g5, h⟩ := sd_gu_go h
        refine sm_W.run (sm_C_mono D) 8 (G := sm_in a1 20 = true ∧ True) (fr' := (40, [some (.ref 21), some (.int x1), some (.int x2), some (.int x3), some (.int x4), some (.int a1), some (.int r4)], [.int (r4 - (I (21 + 6) (Int32.toNatClampNeg a1))), .int x3], 0, 0)) (M' := (I, J, sm_rf t d)) rfl ⟨g5, trivial⟩ ?_
        obtain ⟨r6, hc, h⟩ := sd_q1_go h
        refine sm_W.cal (sm_C_mono D) (y := 270) (as := [.int x3, .int (r4 - (I (21 + 6) (Int32.toNatClampNeg a1)))]) (fr' := (41, [some (.ref 21), some (.int x1), some (.int x2), some (.int x3), some (.int x4), some (.int a1), some (.int r4)], [], 0, 0)) rfl (T_Math_min (by omega) hc ?_)
        show sm_W sm_sh X (sm_C sm_sh X sm_P D) me_4 Q (41, [some (.ref 21), some (.int x1), some (.int x2), some (.int x3), some (.int x4), some (.int a1), some (.int r4)], [.int r6], 0, 0) (I, J, sm_rf t d)
        refine sm_W.run (sm_C_mono D) 3 (G := True) (fr' := (11, [some (.ref 21), some (.int x1), some (.int x2), some (.int r6), some (.int (x4 + (1 : Int32))), some (.int a1), some (.int r4)], [], 0, 0)) (M' := (I, J, sm_rf t d)) rfl trivial ?_
        exact sm_W.forget (L' := [some (.ref 21), some (.int x1), some (.int x2), some (.int r6), some (.int (x4 + (1 : Int32))), none, none]) ⟨rfl, ⟨rfl, ⟨rfl, ⟨rfl, ⟨rfl, trivial⟩⟩⟩⟩⟩ (hk11 _ _ _ _ h)
  · skip
    refine sm_W.run (sm_C_mono D) 3 (G := True) (fr' := (if decide ((4 : Int32) ≤ x4) = true then 44 else 14, [some (.ref 41), some (.int x1), some (.int x2), some (.int x3), some (.int x4), none, none], [], 0, 0)) (M' := (I, J, sm_rf t d)) rfl trivial (sm_W.iteD h (fun hc h => ?_) (fun hc h => ?_))
    · refine sm_W.run (sm_C_mono D) 1 (G := True) (fr' := (45, [some (.ref 41), some (.int x1), some (.int x2), some (.int x3), some (.int x4), none, none], [.int x3], 0, 0)) (M' := (I, J, sm_rf t d)) rfl trivial ?_
      cases h
      exact sm_W.ret (sm_C_mono D) rfl hQ
    · refine sm_W.runL (sm_C_mono D) 6 (G := True) (e := ((x2 * (4 : Int32)) + x4)) (fr' := fun a1 => (20, [some (.ref 41), some (.int x1), some (.int x2), some (.int x3), some (.int x4), some (.int a1), none], [], 0, 0)) (M' := fun _ => (I, J, sm_rf t d)) rfl h trivial (fun a1 h => ?_)
      obtain ⟨g2, h⟩ := sd_gu_go h
      refine sm_W.run (sm_C_mono D) 5 (G := sm_in a1 20 = true ∧ True) (fr' := (if decide ((I (41 + 6) (Int32.toNatClampNeg a1)) ≤ 0) = true then 42 else 25, [some (.ref 41), some (.int x1), some (.int x2), some (.int x3), some (.int x4), some (.int a1), none], [], 0, 0)) (M' := (I, J, sm_rf t d)) rfl ⟨g2, trivial⟩ (sm_W.iteD h (fun hc h => ?_) (fun hc h => ?_))
      · refine sm_W.run (sm_C_mono D) 2 (G := True) (fr' := (11, [some (.ref 41), some (.int x1), some (.int x2), some (.int x3), some (.int (x4 + (1 : Int32))), some (.int a1), none], [], 0, 0)) (M' := (I, J, sm_rf t d)) rfl trivial ?_
        exact sm_W.forget (L' := [some (.ref 41), some (.int x1), some (.int x2), some (.int x3), some (.int (x4 + (1 : Int32))), none, none]) ⟨rfl, ⟨rfl, ⟨rfl, ⟨rfl, ⟨rfl, trivial⟩⟩⟩⟩⟩ (hk11 _ _ _ _ h)
      · obtain ⟨g3, h⟩ := sd_gu_go h
        refine sm_W.run (sm_C_mono D) 6 (G := sm_in a1 20 = true ∧ True) (fr' := (31, [some (.ref 41), some (.int x1), some (.int x2), some (.int x3), some (.int x4), some (.int a1), none], [.int ((I (41 + 11) (Int32.toNatClampNeg a1)) &&& x1)], 0, 0)) (M' := (I, J, sm_rf t d)) rfl ⟨g3, trivial⟩ ?_
        obtain ⟨r4, hc, h⟩ := sd_q1_go h
        refine sm_W.cal (sm_C_mono D) (y := 268) (as := [.int ((I (41 + 11) (Int32.toNatClampNeg a1)) &&& x1)]) (fr' := (32, [some (.ref 41), some (.int x1), some (.int x2), some (.int x3), some (.int x4), some (.int a1), none], [], 0, 0)) rfl (T_Int_bitCount (by omega) hc ?_)
        show sm_W sm_sh X (sm_C sm_sh X sm_P D) me_4 Q (32, [some (.ref 41), some (.int x1), some (.int x2), some (.int x3), some (.int x4), some (.int a1), none], [.int r4], 0, 0) (I, J, sm_rf t d)
        obtain ⟨g5, h⟩ := sd_gu_go h
        refine sm_W.run (sm_C_mono D) 8 (G := sm_in a1 20 = true ∧ True) (fr' := (40, [some (.ref 41), some (.int x1), some (.int x2), some (.int x3), some (.int x4), some (.int a1), some (.int r4)], [.int (r4 - (I (41 + 6) (Int32.toNatClampNeg a1))), .int x3], 0, 0)) (M' := (I, J, sm_rf t d)) rfl ⟨g5, trivial⟩ ?_
        obtain ⟨r6, hc, h⟩ := sd_q1_go h
        refine sm_W.cal (sm_C_mono D) (y := 270) (as := [.int x3, .int (r4 - (I (41 + 6) (Int32.toNatClampNeg a1)))]) (fr' := (41, [some (.ref 41), some (.int x1), some (.int x2), some (.int x3), some (.int x4), some (.int a1), some (.int r4)], [], 0, 0)) rfl (T_Math_min (by omega) hc ?_)
        show sm_W sm_sh X (sm_C sm_sh X sm_P D) me_4 Q (41, [some (.ref 41), some (.int x1), some (.int x2), some (.int x3), some (.int x4), some (.int a1), some (.int r4)], [.int r6], 0, 0) (I, J, sm_rf t d)
        refine sm_W.run (sm_C_mono D) 3 (G := True) (fr' := (11, [some (.ref 41), some (.int x1), some (.int x2), some (.int r6), some (.int (x4 + (1 : Int32))), some (.int a1), some (.int r4)], [], 0, 0)) (M' := (I, J, sm_rf t d)) rfl trivial ?_
        exact sm_W.forget (L' := [some (.ref 41), some (.int x1), some (.int x2), some (.int r6), some (.int (x4 + (1 : Int32))), none, none]) ⟨rfl, ⟨rfl, ⟨rfl, ⟨rfl, ⟨rfl, trivial⟩⟩⟩⟩⟩ (hk11 _ _ _ _ h)
theorem G_Choir_sparable_11 {X : Nat × (Nat → Int32)} {t d D : Nat} {Q : sm_Q} {I : sm_MI} {J : sm_MJ} {p0 : Nat} {rz : Int32}
    (hD : 2 ≤ D) (hp : (p0 = 21) ∨ (p0 = 41)) (hQ : Q (.inl (some (.int rz))) (I, J, sm_rf t d))  : ∀ (n : Nat) (x1 : Int32) (x2 : Int32) (x3 : Int32) (x4 : Int32), F_Choir_sparable_11 p0 I n x1 x2 x3 x4 = some (rz) → sm_W sm_sh X (sm_C sm_sh X sm_P D) me_4 Q (11, [some (.ref p0), some (.int x1), some (.int x2), some (.int x3), some (.int x4), none, none], [], 0, 0) (I, J, sm_rf t d) := by
  intro n
  induction n with
  | zero => intro x1 x2 x3 x4 h; cases (show (none : Option (Int32)) = some (rz) from h)
  | succ n ih => intro x1 x2 x3 x4 h; exact G_Choir_sparable_11B hD hp (show F_Choir_sparable_11B p0 (F_Choir_sparable_11 p0 I n) x1 x2 x3 x4 I = some (rz) from h) hQ  ih
theorem G_Choir_sparable {X : Nat × (Nat → Int32)} {t d D : Nat} {Q : sm_Q} {I : sm_MI} {J : sm_MJ} {p0 : Nat} {x1 : Int32} {x2 : Int32} {rz : Int32}
    (hD : 2 ≤ D) (hp : (p0 = 21) ∨ (p0 = 41)) (h : F_Choir_sparable p0 x1 x2 I = some (rz)) (hQ : Q (.inl (some (.int rz))) (I, J, sm_rf t d))  : sm_W sm_sh X (sm_C sm_sh X sm_P D) me_4 Q (0, [some (.ref p0), some (.int x1), some (.int x2), none, none, none, none], [], 0, 0) (I, J, sm_rf t d) := by
  unfold F_Choir_sparable at h
  rcases hp with rfl | rfl
  · skip
    refine sm_W.run (sm_C_mono D) 3 (G := True) (fr' := (3, [some (.ref 21), some (.int x1), some (.int x2), none, none, none, none], [.int x1, .int x2, .ref 21], 0, 0)) (M' := (I, J, sm_rf t d)) rfl trivial ?_
    obtain ⟨r1, hc, h⟩ := sd_q1_go h
    refine sm_W.cal (sm_C_mono D) (y := 88) (as := [.ref 21, .int x2, .int x1]) (fr' := (4, [some (.ref 21), some (.int x1), some (.int x2), none, none, none, none], [], 0, 0)) rfl (T_Valley_canBeSung (by omega) (by decide) hc ?_)
    show sm_W sm_sh X (sm_C sm_sh X sm_P D) me_4 Q (4, [some (.ref 21), some (.int x1), some (.int x2), none, none, none, none], [.int r1], 0, 0) (I, J, sm_rf t d)
    refine sm_W.run (sm_C_mono D) 1 (G := True) (fr' := (if decide (¬ r1 = 0) = true then 7 else 5, [some (.ref 21), some (.int x1), some (.int x2), none, none, none, none], [], 0, 0)) (M' := (I, J, sm_rf t d)) rfl trivial (sm_W.iteD h (fun hc h => ?_) (fun hc h => ?_))
    · refine sm_W.run (sm_C_mono D) 4 (G := True) (fr' := (11, [some (.ref 21), some (.int x1), some (.int x2), some (.int (14 : Int32)), some (.int (0 : Int32)), none, none], [], 0, 0)) (M' := (I, J, sm_rf t d)) rfl trivial ?_
      exact (G_Choir_sparable_11 hD (by decide) hQ sd_fu _ _ _ _ h)
    · refine sm_W.run (sm_C_mono D) 1 (G := True) (fr' := (6, [some (.ref 21), some (.int x1), some (.int x2), none, none, none, none], [.int (-1 : Int32)], 0, 0)) (M' := (I, J, sm_rf t d)) rfl trivial ?_
      cases h
      exact sm_W.ret (sm_C_mono D) rfl hQ
  · skip
    refine sm_W.run (sm_C_mono D) 3 (G := True) (fr' := (3, [some (.ref 41), some (.int x1), some (.int x2), none, none, none, none], [.int x1, .int x2, .ref 41], 0, 0)) (M' := (I, J, sm_rf t d)) rfl trivial ?_
    obtain ⟨r1, hc, h⟩ := sd_q1_go h
    refine sm_W.cal (sm_C_mono D) (y := 88) (as := [.ref 41, .int x2, .int x1]) (fr' := (4, [some (.ref 41), some (.int x1), some (.int x2), none, none, none, none], [], 0, 0)) rfl (T_Valley_canBeSung (by omega) (by decide) hc ?_)
    show sm_W sm_sh X (sm_C sm_sh X sm_P D) me_4 Q (4, [some (.ref 41), some (.int x1), some (.int x2), none, none, none, none], [.int r1], 0, 0) (I, J, sm_rf t d)
    refine sm_W.run (sm_C_mono D) 1 (G := True) (fr' := (if decide (¬ r1 = 0) = true then 7 else 5, [some (.ref 41), some (.int x1), some (.int x2), none, none, none, none], [], 0, 0)) (M' := (I, J, sm_rf t d)) rfl trivial (sm_W.iteD h (fun hc h => ?_) (fun hc h => ?_))
    · refine sm_W.run (sm_C_mono D) 4 (G := True) (fr' := (11, [some (.ref 41), some (.int x1), some (.int x2), some (.int (14 : Int32)), some (.int (0 : Int32)), none, none], [], 0, 0)) (M' := (I, J, sm_rf t d)) rfl trivial ?_
      exact (G_Choir_sparable_11 hD (by decide) hQ sd_fu _ _ _ _ h)
    · refine sm_W.run (sm_C_mono D) 1 (G := True) (fr' := (6, [some (.ref 41), some (.int x1), some (.int x2), none, none, none, none], [.int (-1 : Int32)], 0, 0)) (M' := (I, J, sm_rf t d)) rfl trivial ?_
      cases h
      exact sm_W.ret (sm_C_mono D) rfl hQ
theorem T_Choir_sparable {X : Nat × (Nat → Int32)} {t d D : Nat} {Q : sm_Q} {I : sm_MI} {J : sm_MJ} {p0 : Nat} {x1 : Int32} {x2 : Int32} {rz : Int32}
    (hD : 3 ≤ D) (hp : (p0 = 21) ∨ (p0 = 41)) (h : F_Choir_sparable p0 x1 x2 I = some (rz)) (hQ : Q (.inl (some (.int rz))) (I, J, sm_rf t d)) : sm_C sm_sh X sm_P D 4 [.ref p0, .int x1, .int x2] (I, J, sm_rf t d) Q := by
  cases D with
  | zero => omega
  | succ D => exact sm_C.of (me := me_4) (L := [some (.ref p0), some (.int x1), some (.int x2), none, none, none, none]) rfl rfl rfl (sm_W.forget (L' := [some (.ref p0), some (.int x1), some (.int x2), none, none, none, none]) ⟨rfl, ⟨rfl, ⟨rfl, trivial⟩⟩⟩ (G_Choir_sparable (by omega) hp h hQ))
-- 89 Valley_singable
noncomputable def F_Valley_singable_4B (p0 : Nat) (k4 : Int32 → Int32 → Int32 → Option (Int32)) (x1 : Int32) (x2 : Int32) (x3 : Int32) (I : sm_MI) : Option (Int32) :=
  if (5 : Int32) ≤ x3 then
    some (x2)
  else
    sd_q1 (F_Valley_canBeSung p0 x3 x1 I) fun r1 =>
    if r1 = 0 then
      k4 x1 x2 (x3 + (1 : Int32))
    else
      sd_lt (x2 ||| ((1 : Int32) <<< (x3 &&& 31))) fun a2 =>
      k4 x1 a2 (x3 + (1 : Int32))
noncomputable def F_Valley_singable_4 (p0 : Nat) (I : sm_MI) (n : Nat) : Int32 → Int32 → Int32 → Option (Int32) :=
  sd_fix (fun k x1 x2 x3 => F_Valley_singable_4B p0 k x1 x2 x3 I) (fun _ _ _ => none) n
noncomputable def F_Valley_singable (p0 : Nat) (x1 : Int32) (I : sm_MI) : Option (Int32) :=
  F_Valley_singable_4 p0 I sd_fu x1 (0 : Int32) (0 : Int32)
theorem G_Valley_singable_4B {X : Nat × (Nat → Int32)} {t d D : Nat} {Q : sm_Q} {I : sm_MI} {J : sm_MJ} {p0 : Nat} {k4 : Int32 → Int32 → Int32 → Option (Int32)} {x1 : Int32} {x2 : Int32} {x3 : Int32} {rz : Int32}
    (hD : 2 ≤ D) (hp : (p0 = 21) ∨ (p0 = 41)) (h : F_Valley_singable_4B p0 k4 x1 x2 x3 I = some (rz)) (hQ : Q (.inl (some (.int rz))) (I, J, sm_rf t d)) (hk4 : ∀ (x1 : Int32) (x2 : Int32) (x3 : Int32), k4 x1 x2 x3 = some (rz) → sm_W sm_sh X (sm_C sm_sh X sm_P D) me_89 Q (4, [some (.ref p0), some (.int x1), some (.int x2), some (.int x3)], [], 0, 0) (I, J, sm_rf t d)) : sm_W sm_sh X (sm_C sm_sh X sm_P D) me_89 Q (4, [some (.ref p0), some (.int x1), some (.int x2), some (.int x3)], [], 0, 0) (I, J, sm_rf t d) := by
  unfold F_Valley_singable_4B at h
  rcases hp with rfl | rfl
  · skip
    refine sm_W.run (sm_C_mono D) 3 (G := True) (fr' := (if decide ((5 : Int32) ≤ x3) = true then 20 else 7, [some (.ref 21), some (.int x1), some (.int x2), some (.int x3)], [], 0, 0)) (M' := (I, J, sm_rf t d)) rfl trivial (sm_W.iteD h (fun hc h => ?_) (fun hc h => ?_))
    · refine sm_W.run (sm_C_mono D) 1 (G := True) (fr' := (21, [some (.ref 21), some (.int x1), some (.int x2), some (.int x3)], [.int x2], 0, 0)) (M' := (I, J, sm_rf t d)) rfl trivial ?_
      cases h
      exact sm_W.ret (sm_C_mono D) rfl hQ
    · refine sm_W.run (sm_C_mono D) 3 (G := True) (fr' := (10, [some (.ref 21), some (.int x1), some (.int x2), some (.int x3)], [.int x1, .int x3, .ref 21], 0, 0)) (M' := (I, J, sm_rf t d)) rfl trivial ?_
      obtain ⟨r1, hc, h⟩ := sd_q1_go h
      refine sm_W.cal (sm_C_mono D) (y := 88) (as := [.ref 21, .int x3, .int x1]) (fr' := (11, [some (.ref 21), some (.int x1), some (.int x2), some (.int x3)], [], 0, 0)) rfl (T_Valley_canBeSung (by omega) (by decide) hc ?_)
      show sm_W sm_sh X (sm_C sm_sh X sm_P D) me_89 Q (11, [some (.ref 21), some (.int x1), some (.int x2), some (.int x3)], [.int r1], 0, 0) (I, J, sm_rf t d)
      refine sm_W.run (sm_C_mono D) 1 (G := True) (fr' := (if decide (r1 = 0) = true then 18 else 12, [some (.ref 21), some (.int x1), some (.int x2), some (.int x3)], [], 0, 0)) (M' := (I, J, sm_rf t d)) rfl trivial (sm_W.iteD h (fun hc h => ?_) (fun hc h => ?_))
      · refine sm_W.run (sm_C_mono D) 2 (G := True) (fr' := (4, [some (.ref 21), some (.int x1), some (.int x2), some (.int (x3 + (1 : Int32)))], [], 0, 0)) (M' := (I, J, sm_rf t d)) rfl trivial ?_
        exact (hk4 _ _ _ h)
      · refine sm_W.runL (sm_C_mono D) 6 (G := True) (e := (x2 ||| ((1 : Int32) <<< (x3 &&& 31)))) (fr' := fun a2 => (18, [some (.ref 21), some (.int x1), some (.int a2), some (.int x3)], [], 0, 0)) (M' := fun _ => (I, J, sm_rf t d)) rfl h trivial (fun a2 h => ?_)
        refine sm_W.run (sm_C_mono D) 2 (G := True) (fr' := (4, [some (.ref 21), some (.int x1), some (.int a2), some (.int (x3 + (1 : Int32)))], [], 0, 0)) (M' := (I, J, sm_rf t d)) rfl trivial ?_
        exact (hk4 _ _ _ h)
  · skip
    refine sm_W.run (sm_C_mono D) 3 (G := True) (fr' := (if decide ((5 : Int32) ≤ x3) = true then 20 else 7, [some (.ref 41), some (.int x1), some (.int x2), some (.int x3)], [], 0, 0)) (M' := (I, J, sm_rf t d)) rfl trivial (sm_W.iteD h (fun hc h => ?_) (fun hc h => ?_))
    · refine sm_W.run (sm_C_mono D) 1 (G := True) (fr' := (21, [some (.ref 41), some (.int x1), some (.int x2), some (.int x3)], [.int x2], 0, 0)) (M' := (I, J, sm_rf t d)) rfl trivial ?_
      cases h
      exact sm_W.ret (sm_C_mono D) rfl hQ
    · refine sm_W.run (sm_C_mono D) 3 (G := True) (fr' := (10, [some (.ref 41), some (.int x1), some (.int x2), some (.int x3)], [.int x1, .int x3, .ref 41], 0, 0)) (M' := (I, J, sm_rf t d)) rfl trivial ?_
      obtain ⟨r1, hc, h⟩ := sd_q1_go h
      refine sm_W.cal (sm_C_mono D) (y := 88) (as := [.ref 41, .int x3, .int x1]) (fr' := (11, [some (.ref 41), some (.int x1), some (.int x2), some (.int x3)], [], 0, 0)) rfl (T_Valley_canBeSung (by omega) (by decide) hc ?_)
      show sm_W sm_sh X (sm_C sm_sh X sm_P D) me_89 Q (11, [some (.ref 41), some (.int x1), some (.int x2), some (.int x3)], [.int r1], 0, 0) (I, J, sm_rf t d)
      refine sm_W.run (sm_C_mono D) 1 (G := True) (fr' := (if decide (r1 = 0) = true then 18 else 12, [some (.ref 41), some (.int x1), some (.int x2), some (.int x3)], [], 0, 0)) (M' := (I, J, sm_rf t d)) rfl trivial (sm_W.iteD h (fun hc h => ?_) (fun hc h => ?_))
      · refine sm_W.run (sm_C_mono D) 2 (G := True) (fr' := (4, [some (.ref 41), some (.int x1), some (.int x2), some (.int (x3 + (1 : Int32)))], [], 0, 0)) (M' := (I, J, sm_rf t d)) rfl trivial ?_
        exact (hk4 _ _ _ h)
      · refine sm_W.runL (sm_C_mono D) 6 (G := True) (e := (x2 ||| ((1 : Int32) <<< (x3 &&& 31)))) (fr' := fun a2 => (18, [some (.ref 41), some (.int x1), some (.int a2), some (.int x3)], [], 0, 0)) (M' := fun _ => (I, J, sm_rf t d)) rfl h trivial (fun a2 h => ?_)
        refine sm_W.run (sm_C_mono D) 2 (G := True) (fr' := (4, [some (.ref 41), some (.int x1), some (.int a2), some (.int (x3 + (1 : Int32)))], [], 0, 0)) (M' := (I, J, sm_rf t d)) rfl trivial ?_
        exact (hk4 _ _ _ h)
theorem G_Valley_singable_4 {X : Nat × (Nat → Int32)} {t d D : Nat} {Q : sm_Q} {I : sm_MI} {J : sm_MJ} {p0 : Nat} {rz : Int32}
    (hD : 2 ≤ D) (hp : (p0 = 21) ∨ (p0 = 41)) (hQ : Q (.inl (some (.int rz))) (I, J, sm_rf t d))  : ∀ (n : Nat) (x1 : Int32) (x2 : Int32) (x3 : Int32), F_Valley_singable_4 p0 I n x1 x2 x3 = some (rz) → sm_W sm_sh X (sm_C sm_sh X sm_P D) me_89 Q (4, [some (.ref p0), some (.int x1), some (.int x2), some (.int x3)], [], 0, 0) (I, J, sm_rf t d) := by
  intro n
  induction n with
  | zero => intro x1 x2 x3 h; cases (show (none : Option (Int32)) = some (rz) from h)
  | succ n ih => intro x1 x2 x3 h; exact G_Valley_singable_4B hD hp (show F_Valley_singable_4B p0 (F_Valley_singable_4 p0 I n) x1 x2 x3 I = some (rz) from h) hQ  ih
theorem G_Valley_singable {X : Nat × (Nat → Int32)} {t d D : Nat} {Q : sm_Q} {I : sm_MI} {J : sm_MJ} {p0 : Nat} {x1 : Int32} {rz : Int32}
    (hD : 2 ≤ D) (hp : (p0 = 21) ∨ (p0 = 41)) (h : F_Valley_singable p0 x1 I = some (rz)) (hQ : Q (.inl (some (.int rz))) (I, J, sm_rf t d))  : sm_W sm_sh X (sm_C sm_sh X sm_P D) me_89 Q (0, [some (.ref p0), some (.int x1), none, none], [], 0, 0) (I, J, sm_rf t d) := by
  unfold F_Valley_singable at h
  rcases hp with rfl | rfl
  · skip
    refine sm_W.run (sm_C_mono D) 4 (G := True) (fr' := (4, [some (.ref 21), some (.int x1), some (.int (0 : Int32)), some (.int (0 : Int32))], [], 0, 0)) (M' := (I, J, sm_rf t d)) rfl trivial ?_
    exact (G_Valley_singable_4 hD (by decide) hQ sd_fu _ _ _ h)
  · skip
    refine sm_W.run (sm_C_mono D) 4 (G := True) (fr' := (4, [some (.ref 41), some (.int x1), some (.int (0 : Int32)), some (.int (0 : Int32))], [], 0, 0)) (M' := (I, J, sm_rf t d)) rfl trivial ?_
    exact (G_Valley_singable_4 hD (by decide) hQ sd_fu _ _ _ h)
theorem T_Valley_singable {X : Nat × (Nat → Int32)} {t d D : Nat} {Q : sm_Q} {I : sm_MI} {J : sm_MJ} {p0 : Nat} {x1 : Int32} {rz : Int32}
    (hD : 3 ≤ D) (hp : (p0 = 21) ∨ (p0 = 41)) (h : F_Valley_singable p0 x1 I = some (rz)) (hQ : Q (.inl (some (.int rz))) (I, J, sm_rf t d)) : sm_C sm_sh X sm_P D 89 [.ref p0, .int x1] (I, J, sm_rf t d) Q := by
  cases D with
  | zero => omega
  | succ D => exact sm_C.of (me := me_89) (L := [some (.ref p0), some (.int x1), none, none]) rfl rfl rfl (sm_W.forget (L' := [some (.ref p0), some (.int x1), none, none]) ⟨rfl, ⟨rfl, trivial⟩⟩ (G_Valley_singable (by omega) hp h hQ))
-- 5 Choir_keySingers
noncomputable def F_Choir_keySingers_8B (p0 : Nat) (k8 : Int32 → Int32 → Int32 → Int32 → Option (Int32)) (x1 : Int32) (x2 : Int32) (x3 : Int32) (x4 : Int32) (I : sm_MI) : Option (Int32) :=
  if (14 : Int32) ≤ x4 then
    some (x3)
  else
    sd_lt ((1 : Int32) <<< (x4 &&& 31)) fun a1 =>
    if (x1 &&& a1) = 0 then
      k8 x1 x2 x3 (x4 + (1 : Int32))
    else
      sd_q1 (F_Valley_singable p0 (x1 &&& (a1 ^^^ (-1 : Int32))) I) fun r2 =>
      if r2 = x2 then
        k8 x1 x2 x3 (x4 + (1 : Int32))
      else
        sd_lt (x3 ||| a1) fun a3 =>
        k8 x1 x2 a3 (x4 + (1 : Int32))
noncomputable def F_Choir_keySingers_8 (p0 : Nat) (I : sm_MI) (n : Nat) : Int32 → Int32 → Int32 → Int32 → Option (Int32) :=
  sd_fix (fun k x1 x2 x3 x4 => F_Choir_keySingers_8B p0 k x1 x2 x3 x4 I) (fun _ _ _ _ => none) n
noncomputable def F_Choir_keySingers (p0 : Nat) (x1 : Int32) (I : sm_MI) : Option (Int32) :=
  sd_q1 (F_Valley_singable p0 x1 I) fun r1 =>
  F_Choir_keySingers_8 p0 I sd_fu x1 r1 (0 : Int32) (0 : Int32)
theorem G_Choir_keySingers_8B {X : Nat × (Nat → Int32)} {t d D : Nat} {Q : sm_Q} {I : sm_MI} {J : sm_MJ} {p0 : Nat} {k8 : Int32 → Int32 → Int32 → Int32 → Option (Int32)} {x1 : Int32} {x2 : Int32} {x3 : Int32} {x4 : Int32} {rz : Int32}
    (hD : 3 ≤ D) (hp : (p0 = 21) ∨ (p0 = 41)) (h : F_Choir_keySingers_8B p0 k8 x1 x2 x3 x4 I = some (rz)) (hQ : Q (.inl (some (.int rz))) (I, J, sm_rf t d)) (hk8 : ∀ (x1 : Int32) (x2 : Int32) (x3 : Int32) (x4 : Int32), k8 x1 x2 x3 x4 = some (rz) → sm_W sm_sh X (sm_C sm_sh X sm_P D) me_5 Q (8, [some (.ref p0), some (.int x1), some (.int x2), some (.int x3), some (.int x4), none], [], 0, 0) (I, J, sm_rf t d)) : sm_W sm_sh X (sm_C sm_sh X sm_P D) me_5 Q (8, [some (.ref p0), some (.int x1), some (.int x2), some (.int x3), some (.int x4), none], [], 0, 0) (I, J, sm_rf t d) := by
  unfold F_Choir_keySingers_8B at h
  rcases hp with rfl | rfl
  · skip
    refine sm_W.run (sm_C_mono D) 3 (G := True) (fr' := (if decide ((14 : Int32) ≤ x4) = true then 34 else 11, [some (.ref 21), some (.int x1), some (.int x2), some (.int x3), some (.int x4), none], [], 0, 0)) (M' := (I, J, sm_rf t d)) rfl trivial (sm_W.iteD h (fun hc h => ?_) (fun hc h => ?_))
    · refine sm_W.run (sm_C_mono D) 1 (G := True) (fr' := (35, [some (.ref 21), some (.int x1), some (.int x2), some (.int x3), some (.int x4), none], [.int x3], 0, 0)) (M' := (I, J, sm_rf t d)) rfl trivial ?_
      cases h
      exact sm_W.ret (sm_C_mono D) rfl hQ
    · refine sm_W.runL (sm_C_mono D) 4 (G := True) (e := ((1 : Int32) <<< (x4 &&& 31))) (fr' := fun a1 => (15, [some (.ref 21), some (.int x1), some (.int x2), some (.int x3), some (.int x4), some (.int a1)], [], 0, 0)) (M' := fun _ => (I, J, sm_rf t d)) rfl h trivial (fun a1 h => ?_)
      refine sm_W.run (sm_C_mono D) 4 (G := True) (fr' := (if decide ((x1 &&& a1) = 0) = true then 32 else 19, [some (.ref 21), some (.int x1), some (.int x2), some (.int x3), some (.int x4), some (.int a1)], [], 0, 0)) (M' := (I, J, sm_rf t d)) rfl trivial (sm_W.iteD h (fun hc h => ?_) (fun hc h => ?_))
      · refine sm_W.run (sm_C_mono D) 2 (G := True) (fr' := (8, [some (.ref 21), some (.int x1), some (.int x2), some (.int x3), some (.int (x4 + (1 : Int32))), some (.int a1)], [], 0, 0)) (M' := (I, J, sm_rf t d)) rfl trivial ?_
        exact sm_W.forget (L' := [some (.ref 21), some (.int x1), some (.int x2), some (.int x3), some (.int (x4 + (1 : Int32))), none]) ⟨rfl, ⟨rfl, ⟨rfl, ⟨rfl, ⟨rfl, trivial⟩⟩⟩⟩⟩ (hk8 _ _ _ _ h)
      · refine sm_W.run (sm_C_mono D) 6 (G := True) (fr' := (25, [some (.ref 21), some (.int x1), some (.int x2), some (.int x3), some (.int x4), some (.int a1)], [.int (x1 &&& (a1 ^^^ (-1 : Int32))), .ref 21], 0, 0)) (M' := (I, J, sm_rf t d)) rfl trivial ?_
        obtain ⟨r2, hc, h⟩ := sd_q1_go h
        refine sm_W.cal (sm_C_mono D) (y := 89) (as := [.ref 21, .int (x1 &&& (a1 ^^^ (-1 : Int32)))]) (fr' := (26, [some (.ref 21), some (.int x1), some (.int x2), some (.int x3), some (.int x4), some (.int a1)], [], 0, 0)) rfl (T_Valley_singable (by omega) (by decide) hc ?_)
        show sm_W sm_sh X (sm_C sm_sh X sm_P D) me_5 Q (26, [some (.ref 21), some (.int x1), some (.int x2), some (.int x3), some (.int x4), some (.int a1)], [.int r2], 0, 0) (I, J, sm_rf t d)
        refine sm_W.run (sm_C_mono D) 2 (G := True) (fr' := (if decide (r2 = x2) = true then 32 else 28, [some (.ref 21), some (.int x1), some (.int x2), some (.int x3), some (.int x4), some (.int a1)], [], 0, 0)) (M' := (I, J, sm_rf t d)) rfl trivial (sm_W.iteD h (fun hc h => ?_) (fun hc h => ?_))
        · refine sm_W.run (sm_C_mono D) 2 (G := True) (fr' := (8, [some (.ref 21), some (.int x1), some (.int x2), some (.int x3), some (.int (x4 + (1 : Int32))), some (.int a1)], [], 0, 0)) (M' := (I, J, sm_rf t d)) rfl trivial ?_
          exact sm_W.forget (L' := [some (.ref 21), some (.int x1), some (.int x2), some (.int x3), some (.int (x4 + (1 : Int32))), none]) ⟨rfl, ⟨rfl, ⟨rfl, ⟨rfl, ⟨rfl, trivial⟩⟩⟩⟩⟩ (hk8 _ _ _ _ h)
        · refine sm_W.runL (sm_C_mono D) 4 (G := True) (e := (x3 ||| a1)) (fr' := fun a3 => (32, [some (.ref 21), some (.int x1), some (.int x2), some (.int a3), some (.int x4), some (.int a1)], [], 0, 0)) (M' := fun _ => (I, J, sm_rf t d)) rfl h trivial (fun a3 h => ?_)
          refine sm_W.run (sm_C_mono D) 2 (G := True) (fr' := (8, [some (.ref 21), some (.int x1), some (.int x2), some (.int a3), some (.int (x4 + (1 : Int32))), some (.int a1)], [], 0, 0)) (M' := (I, J, sm_rf t d)) rfl trivial ?_
          exact sm_W.forget (L' := [some (.ref 21), some (.int x1), some (.int x2), some (.int a3), some (.int (x4 + (1 : Int32))), none]) ⟨rfl, ⟨rfl, ⟨rfl, ⟨rfl, ⟨rfl, trivial⟩⟩⟩⟩⟩ (hk8 _ _ _ _ h)
  · skip
    refine sm_W.run (sm_C_mono D) 3 (G := True) (fr' := (if decide ((14 : Int32) ≤ x4) = true then 34 else 11, [some (.ref 41), some (.int x1), some (.int x2), some (.int x3), some (.int x4), none], [], 0, 0)) (M' := (I, J, sm_rf t d)) rfl trivial (sm_W.iteD h (fun hc h => ?_) (fun hc h => ?_))
    · refine sm_W.run (sm_C_mono D) 1 (G := True) (fr' := (35, [some (.ref 41), some (.int x1), some (.int x2), some (.int x3), some (.int x4), none], [.int x3], 0, 0)) (M' := (I, J, sm_rf t d)) rfl trivial ?_
      cases h
      exact sm_W.ret (sm_C_mono D) rfl hQ
    · refine sm_W.runL (sm_C_mono D) 4 (G := True) (e := ((1 : Int32) <<< (x4 &&& 31))) (fr' := fun a1 => (15, [some (.ref 41), some (.int x1), some (.int x2), some (.int x3), some (.int x4), some (.int a1)], [], 0, 0)) (M' := fun _ => (I, J, sm_rf t d)) rfl h trivial (fun a1 h => ?_)
      refine sm_W.run (sm_C_mono D) 4 (G := True) (fr' := (if decide ((x1 &&& a1) = 0) = true then 32 else 19, [some (.ref 41), some (.int x1), some (.int x2), some (.int x3), some (.int x4), some (.int a1)], [], 0, 0)) (M' := (I, J, sm_rf t d)) rfl trivial (sm_W.iteD h (fun hc h => ?_) (fun hc h => ?_))
      · refine sm_W.run (sm_C_mono D) 2 (G := True) (fr' := (8, [some (.ref 41), some (.int x1), some (.int x2), some (.int x3), some (.int (x4 + (1 : Int32))), some (.int a1)], [], 0, 0)) (M' := (I, J, sm_rf t d)) rfl trivial ?_
        exact sm_W.forget (L' := [some (.ref 41), some (.int x1), some (.int x2), some (.int x3), some (.int (x4 + (1 : Int32))), none]) ⟨rfl, ⟨rfl, ⟨rfl, ⟨rfl, ⟨rfl, trivial⟩⟩⟩⟩⟩ (hk8 _ _ _ _ h)
      · refine sm_W.run (sm_C_mono D) 6 (G := True) (fr' := (25, [some (.ref 41), some (.int x1), some (.int x2), some (.int x3), some (.int x4), some (.int a1)], [.int (x1 &&& (a1 ^^^ (-1 : Int32))), .ref 41], 0, 0)) (M' := (I, J, sm_rf t d)) rfl trivial ?_
        obtain ⟨r2, hc, h⟩ := sd_q1_go h
        refine sm_W.cal (sm_C_mono D) (y := 89) (as := [.ref 41, .int (x1 &&& (a1 ^^^ (-1 : Int32)))]) (fr' := (26, [some (.ref 41), some (.int x1), some (.int x2), some (.int x3), some (.int x4), some (.int a1)], [], 0, 0)) rfl (T_Valley_singable (by omega) (by decide) hc ?_)
        show sm_W sm_sh X (sm_C sm_sh X sm_P D) me_5 Q (26, [some (.ref 41), some (.int x1), some (.int x2), some (.int x3), some (.int x4), some (.int a1)], [.int r2], 0, 0) (I, J, sm_rf t d)
        refine sm_W.run (sm_C_mono D) 2 (G := True) (fr' := (if decide (r2 = x2) = true then 32 else 28, [some (.ref 41), some (.int x1), some (.int x2), some (.int x3), some (.int x4), some (.int a1)], [], 0, 0)) (M' := (I, J, sm_rf t d)) rfl trivial (sm_W.iteD h (fun hc h => ?_) (fun hc h => ?_))
        · refine sm_W.run (sm_C_mono D) 2 (G := True) (fr' := (8, [some (.ref 41), some (.int x1), some (.int x2), some (.int x3), some (.int (x4 + (1 : Int32))), some (.int a1)], [], 0, 0)) (M' := (I, J, sm_rf t d)) rfl trivial ?_
          exact sm_W.forget (L' := [some (.ref 41), some (.int x1), some (.int x2), some (.int x3), some (.int (x4 + (1 : Int32))), none]) ⟨rfl, ⟨rfl, ⟨rfl, ⟨rfl, ⟨rfl, trivial⟩⟩⟩⟩⟩ (hk8 _ _ _ _ h)
        · refine sm_W.runL (sm_C_mono D) 4 (G := True) (e := (x3 ||| a1)) (fr' := fun a3 => (32, [some (.ref 41), some (.int x1), some (.int x2), some (.int a3), some (.int x4), some (.int a1)], [], 0, 0)) (M' := fun _ => (I, J, sm_rf t d)) rfl h trivial (fun a3 h => ?_)
          refine sm_W.run (sm_C_mono D) 2 (G := True) (fr' := (8, [some (.ref 41), some (.int x1), some (.int x2), some (.int a3), some (.int (x4 + (1 : Int32))), some (.int a1)], [], 0, 0)) (M' := (I, J, sm_rf t d)) rfl trivial ?_
          exact sm_W.forget (L' := [some (.ref 41), some (.int x1), some (.int x2), some (.int a3), some (.int (x4 + (1 : Int32))), none]) ⟨rfl, ⟨rfl, ⟨rfl, ⟨rfl, ⟨rfl, trivial⟩⟩⟩⟩⟩ (hk8 _ _ _ _ h)
theorem G_Choir_keySingers_8 {X : Nat × (Nat → Int32)} {t d D : Nat} {Q : sm_Q} {I : sm_MI} {J : sm_MJ} {p0 : Nat} {rz : Int32}
    (hD : 3 ≤ D) (hp : (p0 = 21) ∨ (p0 = 41)) (hQ : Q (.inl (some (.int rz))) (I, J, sm_rf t d))  : ∀ (n : Nat) (x1 : Int32) (x2 : Int32) (x3 : Int32) (x4 : Int32), F_Choir_keySingers_8 p0 I n x1 x2 x3 x4 = some (rz) → sm_W sm_sh X (sm_C sm_sh X sm_P D) me_5 Q (8, [some (.ref p0), some (.int x1), some (.int x2), some (.int x3), some (.int x4), none], [], 0, 0) (I, J, sm_rf t d) := by
  intro n
  induction n with
  | zero => intro x1 x2 x3 x4 h; cases (show (none : Option (Int32)) = some (rz) from h)
  | succ n ih => intro x1 x2 x3 x4 h; exact G_Choir_keySingers_8B hD hp (show F_Choir_keySingers_8B p0 (F_Choir_keySingers_8 p0 I n) x1 x2 x3 x4 I = some (rz) from h) hQ  ih
theorem G_Choir_keySingers {X : Nat × (Nat → Int32)} {t d D : Nat} {Q : sm_Q} {I : sm_MI} {J : sm_MJ} {p0 : Nat} {x1 : Int32} {rz : Int32}
    (hD : 3 ≤ D) (hp : (p0 = 21) ∨ (p0 = 41)) (h : F_Choir_keySingers p0 x1 I = some (rz)) (hQ : Q (.inl (some (.int rz))) (I, J, sm_rf t d))  : sm_W sm_sh X (sm_C sm_sh X sm_P D) me_5 Q (0, [some (.ref p0), some (.int x1), none, none, none, none], [], 0, 0) (I, J, sm_rf t d) := by
  unfold F_Choir_keySingers at h
  rcases hp with rfl | rfl
  · skip
    refine sm_W.run (sm_C_mono D) 2 (G := True) (fr' := (2, [some (.ref 21), some (.int x1), none, none, none, none], [.int x1, .ref 21], 0, 0)) (M' := (I, J, sm_rf t d)) rfl trivial ?_
    obtain ⟨r1, hc, h⟩ := sd_q1_go h
    refine sm_W.cal (sm_C_mono D) (y := 89) (as := [.ref 21, .int x1]) (fr' := (3, [some (.ref 21), some (.int x1), none, none, none, none], [], 0, 0)) rfl (T_Valley_singable (by omega) (by decide) hc ?_)
    show sm_W sm_sh X (sm_C sm_sh X sm_P D) me_5 Q (3, [some (.ref 21), some (.int x1), none, none, none, none], [.int r1], 0, 0) (I, J, sm_rf t d)
    refine sm_W.run (sm_C_mono D) 5 (G := True) (fr' := (8, [some (.ref 21), some (.int x1), some (.int r1), some (.int (0 : Int32)), some (.int (0 : Int32)), none], [], 0, 0)) (M' := (I, J, sm_rf t d)) rfl trivial ?_
    exact (G_Choir_keySingers_8 hD (by decide) hQ sd_fu _ _ _ _ h)
  · skip
    refine sm_W.run (sm_C_mono D) 2 (G := True) (fr' := (2, [some (.ref 41), some (.int x1), none, none, none, none], [.int x1, .ref 41], 0, 0)) (M' := (I, J, sm_rf t d)) rfl trivial ?_
    obtain ⟨r1, hc, h⟩ := sd_q1_go h
    refine sm_W.cal (sm_C_mono D) (y := 89) (as := [.ref 41, .int x1]) (fr' := (3, [some (.ref 41), some (.int x1), none, none, none, none], [], 0, 0)) rfl (T_Valley_singable (by omega) (by decide) hc ?_)
    show sm_W sm_sh X (sm_C sm_sh X sm_P D) me_5 Q (3, [some (.ref 41), some (.int x1), none, none, none, none], [.int r1], 0, 0) (I, J, sm_rf t d)
    refine sm_W.run (sm_C_mono D) 5 (G := True) (fr' := (8, [some (.ref 41), some (.int x1), some (.int r1), some (.int (0 : Int32)), some (.int (0 : Int32)), none], [], 0, 0)) (M' := (I, J, sm_rf t d)) rfl trivial ?_
    exact (G_Choir_keySingers_8 hD (by decide) hQ sd_fu _ _ _ _ h)
theorem T_Choir_keySingers {X : Nat × (Nat → Int32)} {t d D : Nat} {Q : sm_Q} {I : sm_MI} {J : sm_MJ} {p0 : Nat} {x1 : Int32} {rz : Int32}
    (hD : 4 ≤ D) (hp : (p0 = 21) ∨ (p0 = 41)) (h : F_Choir_keySingers p0 x1 I = some (rz)) (hQ : Q (.inl (some (.int rz))) (I, J, sm_rf t d)) : sm_C sm_sh X sm_P D 5 [.ref p0, .int x1] (I, J, sm_rf t d) Q := by
  cases D with
  | zero => omega
  | succ D => exact sm_C.of (me := me_5) (L := [some (.ref p0), some (.int x1), none, none, none, none]) rfl rfl rfl (sm_W.forget (L' := [some (.ref p0), some (.int x1), none, none, none, none]) ⟨rfl, ⟨rfl, trivial⟩⟩ (G_Choir_keySingers (by omega) hp h hQ))
