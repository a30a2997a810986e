/-! ===== printed by wip/gen/emit_parts.py: what the methods compute ===== -/
-- 83 Valley_ofSide
noncomputable def F_Valley_ofSide (p0 : Nat) (x1 : Int32) (I : sm_MI) : Option (Int32) :=
  if x1 < 0 then
    some ((0 : Int32))
  else
    if (3 : Int32) ≤ x1 then
      some ((0 : Int32))
    else
      sd_gu (sm_in x1 3 = true) <|
      some ((I (p0 + 12) (Int32.toNatClampNeg x1)))
theorem G_Valley_ofSide {X : Nat × (Nat → Int32)} {t d D : Nat} {Q : sm_Q} {I : sm_MI} {J : sm_MJ} {p0 : Nat} {x1 : Int32} {rz : Int32}
    (hD : 0 ≤ D) (hp : (p0 = 21) ∨ (p0 = 41)) (h : F_Valley_ofSide p0 x1 I = some (rz)) (hQ : Q (.inl (some (.int rz))) (I, J, sm_rf t d))  : sm_W sm_sh X (sm_C sm_sh X sm_P D) me_83 Q (0, [some (.ref p0), some (.int x1)], [], 0, 0) (I, J, sm_rf t d) := by
  unfold F_Valley_ofSide at h
  rcases hp with rfl | rfl
  · skip
    refine sm_W.run (sm_C_mono D) 2 (G := True) (fr' := (if decide (x1 < 0) = true then 10 else 2, [some (.ref 21), some (.int x1)], [], 0, 0)) (M' := (I, J, sm_rf t d)) rfl trivial (sm_W.iteD h (fun hc h => ?_) (fun hc h => ?_))
    · refine sm_W.run (sm_C_mono D) 1 (G := True) (fr' := (11, [some (.ref 21), some (.int x1)], [.int (0 : Int32)], 0, 0)) (M' := (I, J, sm_rf t d)) rfl trivial ?_
      cases h
      exact sm_W.ret (sm_C_mono D) rfl hQ
    · refine sm_W.run (sm_C_mono D) 3 (G := True) (fr' := (if decide ((3 : Int32) ≤ x1) = true then 10 else 5, [some (.ref 21), some (.int x1)], [], 0, 0)) (M' := (I, J, sm_rf t d)) rfl trivial (sm_W.iteD h (fun hc h => ?_) (fun hc h => ?_))
      · refine sm_W.run (sm_C_mono D) 1 (G := True) (fr' := (11, [some (.ref 21), some (.int x1)], [.int (0 : Int32)], 0, 0)) (M' := (I, J, sm_rf t d)) rfl trivial ?_
        cases h
        exact sm_W.ret (sm_C_mono D) rfl hQ
      · obtain ⟨g1, h⟩ := sd_gu_go h
        refine sm_W.run (sm_C_mono D) 5 (G := sm_in x1 3 = true ∧ True) (fr' := (11, [some (.ref 21), some (.int x1)], [.int (I (21 + 12) (Int32.toNatClampNeg x1))], 0, 0)) (M' := (I, J, sm_rf t d)) rfl ⟨g1, trivial⟩ ?_
        cases h
        exact sm_W.ret (sm_C_mono D) rfl hQ
  · skip
    refine sm_W.run (sm_C_mono D) 2 (G := True) (fr' := (if decide (x1 < 0) = true then 10 else 2, [some (.ref 41), some (.int x1)], [], 0, 0)) (M' := (I, J, sm_rf t d)) rfl trivial (sm_W.iteD h (fun hc h => ?_) (fun hc h => ?_))
    · refine sm_W.run (sm_C_mono D) 1 (G := True) (fr' := (11, [some (.ref 41), some (.int x1)], [.int (0 : Int32)], 0, 0)) (M' := (I, J, sm_rf t d)) rfl trivial ?_
      cases h
      exact sm_W.ret (sm_C_mono D) rfl hQ
    · refine sm_W.run (sm_C_mono D) 3 (G := True) (fr' := (if decide ((3 : Int32) ≤ x1) = true then 10 else 5, [some (.ref 41), some (.int x1)], [], 0, 0)) (M' := (I, J, sm_rf t d)) rfl trivial (sm_W.iteD h (fun hc h => ?_) (fun hc h => ?_))
      · refine sm_W.run (sm_C_mono D) 1 (G := True) (fr' := (11, [some (.ref 41), some (.int x1)], [.int (0 : Int32)], 0, 0)) (M' := (I, J, sm_rf t d)) rfl trivial ?_
        cases h
        exact sm_W.ret (sm_C_mono D) rfl hQ
      · obtain ⟨g1, h⟩ := sd_gu_go h
        refine sm_W.run (sm_C_mono D) 5 (G := sm_in x1 3 = true ∧ True) (fr' := (11, [some (.ref 41), some (.int x1)], [.int (I (41 + 12) (Int32.toNatClampNeg x1))], 0, 0)) (M' := (I, J, sm_rf t d)) rfl ⟨g1, trivial⟩ ?_
        cases h
        exact sm_W.ret (sm_C_mono D) rfl hQ
theorem T_Valley_ofSide {X : Nat × (Nat → Int32)} {t d D : Nat} {Q : sm_Q} {I : sm_MI} {J : sm_MJ} {p0 : Nat} {x1 : Int32} {rz : Int32}
    (hD : 1 ≤ D) (hp : (p0 = 21) ∨ (p0 = 41)) (h : F_Valley_ofSide p0 x1 I = some (rz)) (hQ : Q (.inl (some (.int rz))) (I, J, sm_rf t d)) : sm_C sm_sh X sm_P D 83 [.ref p0, .int x1] (I, J, sm_rf t d) Q := by
  cases D with
  | zero => omega
  | succ D => exact sm_C.of (me := me_83) (L := [some (.ref p0), some (.int x1)]) rfl rfl rfl (sm_W.forget (L' := [some (.ref p0), some (.int x1)]) ⟨rfl, ⟨rfl, trivial⟩⟩ (G_Valley_ofSide (by omega) hp h hQ))
-- 6 Choir_ransomed
noncomputable def F_Choir_ransomed_71 (p0 : Nat) (k36 : Int32 → Int32 → Int32 → Int32 → Int32 → Int32 → Int32 → Int32 → Option (Int32)) (x2 : Int32) (x3 : Int32) (x4 : Int32) (x5 : Int32) (x6 : Int32) (x7 : Int32) (x8 : Int32) (x9 : Int32) (I : sm_MI) : Option (Int32) :=
  sd_lt ((x8 - x5) &&& x5) fun a1 =>
  if a1 = 0 then
    some (x6)
  else
    if ¬ x7 = 0 then
      k36 x2 x3 x4 x5 x6 x7 a1 (x9 + (1 : Int32))
    else
      some (x6)
noncomputable def F_Choir_ransomed_53 (p0 : Nat) (k36 : Int32 → Int32 → Int32 → Int32 → Int32 → Int32 → Int32 → Int32 → Option (Int32)) (x2 : Int32) (x3 : Int32) (x4 : Int32) (x5 : Int32) (x6 : Int32) (x7 : Int32) (x8 : Int32) (x9 : Int32) (x10 : Int32) (s0 : Int32) (I : sm_MI) : Option (Int32) :=
  if s0 = 0 then
    F_Choir_ransomed_71 p0 k36 x2 x3 x4 x5 x6 x7 x8 x9 I
  else
    if x7 ≤ x10 then
      F_Choir_ransomed_71 p0 k36 x2 x3 x4 x5 x6 x7 x8 x9 I
    else
      sd_q1 (F_Valley_canBeSung p0 x2 ((I 9 0) ||| x8) I) fun r1 =>
      if r1 = 0 then
        F_Choir_ransomed_71 p0 k36 x2 x3 x4 x5 x6 x7 x8 x9 I
      else
        F_Choir_ransomed_71 p0 k36 x2 x3 x4 x5 x8 x10 x8 x9 I
noncomputable def F_Choir_ransomed_36B (p0 : Nat) (k36 : Int32 → Int32 → Int32 → Int32 → Int32 → Int32 → Int32 → Int32 → Option (Int32)) (x2 : Int32) (x3 : Int32) (x4 : Int32) (x5 : Int32) (x6 : Int32) (x7 : Int32) (x8 : Int32) (x9 : Int32) (I : sm_MI) : Option (Int32) :=
  if (16384 : Int32) ≤ x9 then
    some (x6)
  else
    sd_q1 (F_Int_bitCount (x8 &&& x3)) fun r1 =>
    sd_q1 (F_Int_bitCount (x8 &&& x4)) fun r2 =>
    if ¬ r1 = r2 then
      F_Choir_ransomed_53 p0 k36 x2 x3 x4 x5 x6 x7 x8 x9 r1 (0 : Int32) I
    else
      F_Choir_ransomed_53 p0 k36 x2 x3 x4 x5 x6 x7 x8 x9 r1 (1 : Int32) I
noncomputable def F_Choir_ransomed_36 (p0 : Nat) (I : sm_MI) (n : Nat) : Int32 → Int32 → Int32 → Int32 → Int32 → Int32 → Int32 → Int32 → Option (Int32) :=
  sd_fix (fun k x2 x3 x4 x5 x6 x7 x8 x9 => F_Choir_ransomed_36B p0 k x2 x3 x4 x5 x6 x7 x8 x9 I) (fun _ _ _ _ _ _ _ _ => none) n
noncomputable def F_Choir_ransomed (p0 : Nat) (x2 : Int32) (I : sm_MI) : Option (Int32) :=
  sd_q1 (F_Valley_ofSide p0 (0 : Int32) I) fun r1 =>
  sd_lt (r1 &&& (I 9 1)) fun a2 =>
  sd_q1 (F_Valley_ofSide p0 (1 : Int32) I) fun r3 =>
  sd_lt (r3 &&& (I 9 1)) fun a4 =>
  sd_lt (a2 ||| a4) fun a5 =>
  sd_q1 (F_Valley_canBeSung p0 x2 ((I 9 0) ||| a5) I) fun r6 =>
  if ¬ r6 = 0 then
    F_Choir_ransomed_36 p0 I sd_fu x2 a2 a4 a5 (-1 : Int32) (1000 : Int32) (0 : Int32) (0 : Int32)
  else
    some ((-1 : Int32))
theorem G_Choir_ransomed_71 {X : Nat × (Nat → Int32)} {t d D : Nat} {Q : sm_Q} {I : sm_MI} {J : sm_MJ} {p0 : Nat} {k36 : Int32 → Int32 → Int32 → Int32 → Int32 → Int32 → Int32 → Int32 → Option (Int32)} {x2 : Int32} {x3 : Int32} {x4 : Int32} {x5 : Int32} {x6 : Int32} {x7 : Int32} {x8 : Int32} {x9 : Int32} {rz : Int32}
    (hD : 2 ≤ D) (hp : (p0 = 21) ∨ (p0 = 41)) (h : F_Choir_ransomed_71 p0 k36 x2 x3 x4 x5 x6 x7 x8 x9 I = some (rz)) (hQ : Q (.inl (some (.int rz))) (I, J, sm_rf t d)) (hk36 : ∀ (x2 : Int32) (x3 : Int32) (x4 : Int32) (x5 : Int32) (x6 : Int32) (x7 : Int32) (x8 : Int32) (x9 : Int32), k36 x2 x3 x4 x5 x6 x7 x8 x9 = some (rz) → sm_W sm_sh X (sm_C sm_sh X sm_P D) me_6 Q (36, [some (.ref p0), some (.ref 9), some (.int x2), some (.int x3), some (.int x4), some (.int x5), some (.int x6), some (.int x7), some (.int x8), some (.int x9), none, none], [], 0, 0) (I, J, sm_rf t d)) : sm_W sm_sh X (sm_C sm_sh X sm_P D) me_6 Q (71, [some (.ref p0), some (.ref 9), some (.int x2), some (.int x3), some (.int x4), some (.int x5), some (.int x6), some (.int x7), some (.int x8), some (.int x9), none, none], [], 0, 0) (I, J, sm_rf t d) := by
  unfold F_Choir_ransomed_71 at h
  rcases hp with rfl | rfl
  · skip
    refine sm_W.runL (sm_C_mono D) 6 (G := True) (e := ((x8 - x5) &&& x5)) (fr' := fun a1 => (77, [some (.ref 21), some (.ref 9), some (.int x2), some (.int x3), some (.int x4), some (.int x5), some (.int x6), some (.int x7), some (.int a1), some (.int x9), none, none], [], 0, 0)) (M' := fun _ => (I, J, sm_rf t d)) rfl h trivial (fun a1 h => ?_)
    refine sm_W.run (sm_C_mono D) 2 (G := True) (fr' := (if decide (a1 = 0) = true then 84 else 79, [some (.ref 21), some (.ref 9), some (.int x2), some (.int x3), some (.int x4), some (.int x5), some (.int x6), some (.int x7), some (.int a1), some (.int x9), none, none], [], 0, 0)) (M' := (I, J, sm_rf t d)) rfl trivial (sm_W.iteD h (fun hc h => ?_) (fun hc h => ?_))
    · refine sm_W.run (sm_C_mono D) 1 (G := True) (fr' := (85, [some (.ref 21), some (.ref 9), some (.int x2), some (.int x3), some (.int x4), some (.int x5), some (.int x6), some (.int x7), some (.int a1), some (.int x9), none, none], [.int x6], 0, 0)) (M' := (I, J, sm_rf t d)) rfl trivial ?_
      cases h
      exact sm_W.ret (sm_C_mono D) rfl hQ
    · refine sm_W.run (sm_C_mono D) 2 (G := True) (fr' := (if decide (¬ x7 = 0) = true then 82 else 81, [some (.ref 21), some (.ref 9), some (.int x2), some (.int x3), some (.int x4), some (.int x5), some (.int x6), some (.int x7), some (.int a1), some (.int x9), none, none], [], 0, 0)) (M' := (I, J, sm_rf t d)) rfl trivial (sm_W.iteD h (fun hc h => ?_) (fun hc h => ?_))
      · refine sm_W.run (sm_C_mono D) 2 (G := True) (fr' := (36, [some (.ref 21), some (.ref 9), some (.int x2), some (.int x3), some (.int x4), some (.int x5), some (.int x6), some (.int x7), some (.int a1), some (.int (x9 + (1 : Int32))), none, none], [], 0, 0)) (M' := (I, J, sm_rf t d)) rfl trivial ?_
        exact (hk36 _ _ _ _ _ _ _ _ h)
      · refine sm_W.run (sm_C_mono D) 2 (G := True) (fr' := (85, [some (.ref 21), some (.ref 9), some (.int x2), some (.int x3), some (.int x4), some (.int x5), some (.int x6), some (.int x7), some (.int a1), some (.int x9), none, none], [.int x6], 0, 0)) (M' := (I, J, sm_rf t d)) rfl trivial ?_
        cases h
        exact sm_W.ret (sm_C_mono D) rfl hQ
  · skip
    refine sm_W.runL (sm_C_mono D) 6 (G := True) (e := ((x8 - x5) &&& x5)) (fr' := fun a1 => (77, [some (.ref 41), some (.ref 9), some (.int x2), some (.int x3), some (.int x4), some (.int x5), some (.int x6), some (.int x7), some (.int a1), some (.int x9), none, none], [], 0, 0)) (M' := fun _ => (I, J, sm_rf t d)) rfl h trivial (fun a1 h => ?_)
    refine sm_W.run (sm_C_mono D) 2 (G := True) (fr' := (if decide (a1 = 0) = true then 84 else 79, [some (.ref 41), some (.ref 9), some (.int x2), some (.int x3), some (.int x4), some (.int x5), some (.int x6), some (.int x7), some (.int a1), some (.int x9), none, none], [], 0, 0)) (M' := (I, J, sm_rf t d)) rfl trivial (sm_W.iteD h (fun hc h => ?_) (fun hc h => ?_))
    · refine sm_W.run (sm_C_mono D) 1 (G := True) (fr' := (85, [some (.ref 41), some (.ref 9), some (.int x2), some (.int x3), some (.int x4), some (.int x5), some (.int x6), some (.int x7), some (.int a1), some (.int x9), none, none], [.int x6], 0, 0)) (M' := (I, J, sm_rf t d)) rfl trivial ?_
      cases h
      exact sm_W.ret (sm_C_mono D) rfl hQ
    · refine sm_W.run (sm_C_mono D) 2 (G := True) (fr' := (if decide (¬ x7 = 0) = true then 82 else 81, [some (.ref 41), some (.ref 9), some (.int x2), some (.int x3), some (.int x4), some (.int x5), some (.int x6), some (.int x7), some (.int a1), some (.int x9), none, none], [], 0, 0)) (M' := (I, J, sm_rf t d)) rfl trivial (sm_W.iteD h (fun hc h => ?_) (fun hc h => ?_))
      · refine sm_W.run (sm_C_mono D) 2 (G := True) (fr' := (36, [some (.ref 41), some (.ref 9), some (.int x2), some (.int x3), some (.int x4), some (.int x5), some (.int x6), some (.int x7), some (.int a1), some (.int (x9 + (1 : Int32))), none, none], [], 0, 0)) (M' := (I, J, sm_rf t d)) rfl trivial ?_
        exact (hk36 _ _ _ _ _ _ _ _ h)
      · refine sm_W.run (sm_C_mono D) 2 (G := True) (fr' := (85, [some (.ref 41), some (.ref 9), some (.int x2), some (.int x3), some (.int x4), some (.int x5), some (.int x6), some (.int x7), some (.int a1), some (.int x9), none, none], [.int x6], 0, 0)) (M' := (I, J, sm_rf t d)) rfl trivial ?_
        cases h
        exact sm_W.ret (sm_C_mono D) rfl hQ
theorem G_Choir_ransomed_53 {X : Nat × (Nat → Int32)} {t d D : Nat} {Q : sm_Q} {I : sm_MI} {J : sm_MJ} {p0 : Nat} {k36 : Int32 → Int32 → Int32 → Int32 → Int32 → Int32 → Int32 → Int32 → Option (Int32)} {x2 : Int32} {x3 : Int32} {x4 : Int32} {x5 : Int32} {x6 : Int32} {x7 : Int32} {x8 : Int32} {x9 : Int32} {x10 : Int32} {s0 : Int32} {rz : Int32}
    (hD : 2 ≤ D) (hp : (p0 = 21) ∨ (p0 = 41)) (h : F_Choir_ransomed_53 p0 k36 x2 x3 x4 x5 x6 x7 x8 x9 x10 s0 I = some (rz)) (hQ : Q (.inl (some (.int rz))) (I, J, sm_rf t d)) (hk36 : ∀ (x2 : Int32) (x3 : Int32) (x4 : Int32) (x5 : Int32) (x6 : Int32) (x7 : Int32) (x8 : Int32) (x9 : Int32), k36 x2 x3 x4 x5 x6 x7 x8 x9 = some (rz) → sm_W sm_sh X (sm_C sm_sh X sm_P D) me_6 Q (36, [some (.ref p0), some (.ref 9), some (.int x2), some (.int x3), some (.int x4), some (.int x5), some (.int x6), some (.int x7), some (.int x8), some (.int x9), none, none], [], 0, 0) (I, J, sm_rf t d)) : sm_W sm_sh X (sm_C sm_sh X sm_P D) me_6 Q (53, [some (.ref p0), some (.ref 9), some (.int x2), some (.int x3), some (.int x4), some (.int x5), some (.int x6), some (.int x7), some (.int x8), some (.int x9), some (.int x10), none], [.int s0], 0, 0) (I, J, sm_rf t d) := by
  unfold F_Choir_ransomed_53 at h
  rcases hp with rfl | rfl
  · skip
    refine sm_W.run (sm_C_mono D) 3 (G := True) (fr' := (if decide (s0 = 0) = true then 71 else 56, [some (.ref 21), some (.ref 9), some (.int x2), some (.int x3), some (.int x4), some (.int x5), some (.int x6), some (.int x7), some (.int x8), some (.int x9), some (.int x10), some (.int s0)], [], 0, 0)) (M' := (I, J, sm_rf t d)) rfl trivial (sm_W.iteD h (fun hc h => ?_) (fun hc h => ?_))
    · exact sm_W.forget (L' := [some (.ref 21), some (.ref 9), some (.int x2), some (.int x3), some (.int x4), some (.int x5), some (.int x6), some (.int x7), some (.int x8), some (.int x9), none, none]) ⟨rfl, ⟨rfl, ⟨rfl, ⟨rfl, ⟨rfl, ⟨rfl, ⟨rfl, ⟨rfl, ⟨rfl, ⟨rfl, trivial⟩⟩⟩⟩⟩⟩⟩⟩⟩⟩ (G_Choir_ransomed_71 hD (by decide) h hQ hk36)
    · refine sm_W.run (sm_C_mono D) 3 (G := True) (fr' := (if decide (x7 ≤ x10) = true then 71 else 59, [some (.ref 21), some (.ref 9), some (.int x2), some (.int x3), some (.int x4), some (.int x5), some (.int x6), some (.int x7), some (.int x8), some (.int x9), some (.int x10), some (.int s0)], [], 0, 0)) (M' := (I, J, sm_rf t d)) rfl trivial (sm_W.iteD h (fun hc h => ?_) (fun hc h => ?_))
      · exact sm_W.forget (L' := [some (.ref 21), some (.ref 9), some (.int x2), some (.int x3), some (.int x4), some (.int x5), some (.int x6), some (.int x7), some (.int x8), some (.int x9), none, none]) ⟨rfl, ⟨rfl, ⟨rfl, ⟨rfl, ⟨rfl, ⟨rfl, ⟨rfl, ⟨rfl, ⟨rfl, ⟨rfl, trivial⟩⟩⟩⟩⟩⟩⟩⟩⟩⟩ (G_Choir_ransomed_71 hD (by decide) h hQ hk36)
      · refine sm_W.run (sm_C_mono D) 6 (G := True) (fr' := (65, [some (.ref 21), some (.ref 9), some (.int x2), some (.int x3), some (.int x4), some (.int x5), some (.int x6), some (.int x7), some (.int x8), some (.int x9), some (.int x10), some (.int s0)], [.int ((I 9 0) ||| x8), .int x2, .ref 21], 0, 0)) (M' := (I, J, sm_rf t d)) rfl trivial ?_
        obtain ⟨r1, hc, h⟩ := sd_q1_go h
        refine sm_W.cal (sm_C_mono D) (y := 88) (as := [.ref 21, .int x2, .int ((I 9 0) ||| x8)]) (fr' := (66, [some (.ref 21), some (.ref 9), some (.int x2), some (.int x3), some (.int x4), some (.int x5), some (.int x6), some (.int x7), some (.int x8), some (.int x9), some (.int x10), some (.int s0)], [], 0, 0)) rfl (T_Valley_canBeSung (by omega) (by decide) hc ?_)
        show sm_W sm_sh X (sm_C sm_sh X sm_P D) me_6 Q (66, [some (.ref 21), some (.ref 9), some (.int x2), some (.int x3), some (.int x4), some (.int x5), some (.int x6), some (.int x7), some (.int x8), some (.int x9), some (.int x10), some (.int s0)], [.int r1], 0, 0) (I, J, sm_rf t d)
        refine sm_W.run (sm_C_mono D) 1 (G := True) (fr' := (if decide (r1 = 0) = true then 71 else 67, [some (.ref 21), some (.ref 9), some (.int x2), some (.int x3), some (.int x4), some (.int x5), some (.int x6), some (.int x7), some (.int x8), some (.int x9), some (.int x10), some (.int s0)], [], 0, 0)) (M' := (I, J, sm_rf t d)) rfl trivial (sm_W.iteD h (fun hc h => ?_) (fun hc h => ?_))
        · exact sm_W.forget (L' := [some (.ref 21), some (.ref 9), some (.int x2), some (.int x3), some (.int x4), some (.int x5), some (.int x6), some (.int x7), some (.int x8), some (.int x9), none, none]) ⟨rfl, ⟨rfl, ⟨rfl, ⟨rfl, ⟨rfl, ⟨rfl, ⟨rfl, ⟨rfl, ⟨rfl, ⟨rfl, trivial⟩⟩⟩⟩⟩⟩⟩⟩⟩⟩ (G_Choir_ransomed_71 hD (by decide) h hQ hk36)
        · refine sm_W.run (sm_C_mono D) 4 (G := True) (fr' := (71, [some (.ref 21), some (.ref 9), some (.int x2), some (.int x3), some (.int x4), some (.int x5), some (.int x8), some (.int x10), some (.int x8), some (.int x9), some (.int x10), some (.int s0)], [], 0, 0)) (M' := (I, J, sm_rf t d)) rfl trivial ?_
          exact sm_W.forget (L' := [some (.ref 21), some (.ref 9), some (.int x2), some (.int x3), some (.int x4), some (.int x5), some (.int x8), some (.int x10), some (.int x8), some (.int x9), none, none]) ⟨rfl, ⟨rfl, ⟨rfl, ⟨rfl, ⟨rfl, ⟨rfl, ⟨rfl, ⟨rfl, ⟨rfl, ⟨rfl, trivial⟩⟩⟩⟩⟩⟩⟩⟩⟩⟩ (G_Choir_ransomed_71 hD (by decide) h hQ hk36)
  · skip
    refine sm_W.run (sm_C_mono D) 3 (G := True) (fr' := (if decide (s0 = 0) = true then 71 else 56, [some (.ref 41), some (.ref 9), some (.int x2), some (.int x3), some (.int x4), some (.int x5), some (.int x6), some (.int x7), some (.int x8), some (.int x9), some (.int x10), some (.int s0)], [], 0, 0)) (M' := (I, J, sm_rf t d)) rfl trivial (sm_W.iteD h (fun hc h => ?_) (fun hc h => ?_))
    · exact sm_W.forget (L' := [some (.ref 41), some (.ref 9), some (.int x2), some (.int x3), some (.int x4), some (.int x5), some (.int x6), some (.int x7), some (.int x8), some (.int x9), none, none]) ⟨rfl, ⟨rfl, ⟨rfl, ⟨rfl, ⟨rfl, ⟨rfl, ⟨rfl, ⟨rfl, ⟨rfl, ⟨rfl, trivial⟩⟩⟩⟩⟩⟩⟩⟩⟩⟩ (G_Choir_ransomed_71 hD (by decide) h hQ hk36)
    · refine sm_W.run (sm_C_mono D) 3 (G := True) (fr' := (if decide (x7 ≤ x10) = true then 71 else 59, [some (.ref 41), some (.ref 9), some (.int x2), some (.int x3), some (.int x4), some (.int x5), some (.int x6), some (.int x7), some (.int x8), some (.int x9), some (.int x10), some (.int s0)], [], 0, 0)) (M' := (I, J, sm_rf t d)) rfl trivial (sm_W.iteD h (fun hc h => ?_) (fun hc h => ?_))
      · exact sm_W.forget (L' := [some (.ref 41), some (.ref 9), some (.int x2), some (.int x3), some (.int x4), some (.int x5), some (.int x6), some (.int x7), some (.int x8), some (.int x9), none, none]) ⟨rfl, ⟨rfl, ⟨rfl, ⟨rfl, ⟨rfl, ⟨rfl, ⟨rfl, ⟨rfl, ⟨rfl, ⟨rfl, trivial⟩⟩⟩⟩⟩⟩⟩⟩⟩⟩ (G_Choir_ransomed_71 hD (by decide) h hQ hk36)
      · refine sm_W.run (sm_C_mono D) 6 (G := True) (fr' := (65, [some (.ref 41), some (.ref 9), some (.int x2), some (.int x3), some (.int x4), some (.int x5), some (.int x6), some (.int x7), some (.int x8), some (.int x9), some (.int x10), some (.int s0)], [.int ((I 9 0) ||| x8), .int x2, .ref 41], 0, 0)) (M' := (I, J, sm_rf t d)) rfl trivial ?_
        obtain ⟨r1, hc, h⟩ := sd_q1_go h
        refine sm_W.cal (sm_C_mono D) (y := 88) (as := [.ref 41, .int x2, .int ((I 9 0) ||| x8)]) (fr' := (66, [some (.ref 41), some (.ref 9), some (.int x2), some (.int x3), some (.int x4), some (.int x5), some (.int x6), some (.int x7), some (.int x8), some (.int x9), some (.int x10), some (.int s0)], [], 0, 0)) rfl (T_Valley_canBeSung (by omega) (by decide) hc ?_)
        show sm_W sm_sh X (sm_C sm_sh X sm_P D) me_6 Q (66, [some (.ref 41), some (.ref 9), some (.int x2), some (.int x3), some (.int x4), some (.int x5), some (.int x6), some (.int x7), some (.int x8), some (.int x9), some (.int x10), some (.int s0)], [.int r1], 0, 0) (I, J, sm_rf t d)
        refine sm_W.run (sm_C_mono D) 1 (G := True) (fr' := (if decide (r1 = 0) = true then 71 else 67, [some (.ref 41), some (.ref 9), some (.int x2), some (.int x3), some (.int x4), some (.int x5), some (.int x6), some (.int x7), some (.int x8), some (.int x9), some (.int x10), some (.int s0)], [], 0, 0)) (M' := (I, J, sm_rf t d)) rfl trivial (sm_W.iteD h (fun hc h => ?_) (fun hc h => ?_))
        · exact sm_W.forget (L' := [some (.ref 41), some (.ref 9), some (.int x2), some (.int x3), some (.int x4), some (.int x5), some (.int x6), some (.int x7), some (.int x8), some (.int x9), none, none]) ⟨rfl, ⟨rfl, ⟨rfl, ⟨rfl, ⟨rfl, ⟨rfl, ⟨rfl, ⟨rfl, ⟨rfl, ⟨rfl, trivial⟩⟩⟩⟩⟩⟩⟩⟩⟩⟩ (G_Choir_ransomed_71 hD (by decide) h hQ hk36)
        · refine sm_W.run (sm_C_mono D) 4 (G := True) (fr' := (71, [some (.ref 41), some (.ref 9), some (.int x2), some (.int x3), some (.int x4), some (.int x5), some (.int x8), some (.int x10), some (.int x8), some (.int x9), some (.int x10), some (.int s0)], [], 0, 0)) (M' := (I, J, sm_rf t d)) rfl trivial ?_
          exact sm_W.forget (L' := [some (.ref 41), some (.ref 9), some (.int x2), some (.int x3), some (.int x4), some (.int x5), some (.int x8), some (.int x10), some (.int x8), some (.int x9), none, none]) ⟨rfl, ⟨rfl, ⟨rfl, ⟨rfl, ⟨rfl, ⟨rfl, ⟨rfl, ⟨rfl, ⟨rfl, ⟨rfl, trivial⟩⟩⟩⟩⟩⟩⟩⟩⟩⟩ (G_Choir_ransomed_71 hD (by decide) h hQ hk36)
theorem G_Choir_ransomed_36B {X : Nat × (Nat → Int32)} {t d D : Nat} {Q : sm_Q} {I : sm_MI} {J : sm_MJ} {p0 : Nat} {k36 : Int32 → Int32 → Int32 → Int32 → Int32 → Int32 → Int32 → Int32 → Option (Int32)} {x2 : Int32} {x3 : Int32} {x4 : Int32} {x5 : Int32} {x6 : Int32} {x7 : Int32} {x8 : Int32} {x9 : Int32} {rz : Int32}
    (hD : 2 ≤ D) (hp : (p0 = 21) ∨ (p0 = 41)) (h : F_Choir_ransomed_36B p0 k36 x2 x3 x4 x5 x6 x7 x8 x9 I = some (rz)) (hQ : Q (.inl (some (.int rz))) (I, J, sm_rf t d)) (hk36 : ∀ (x2 : Int32) (x3 : Int32) (x4 : Int32) (x5 : Int32) (x6 : Int32) (x7 : Int32) (x8 : Int32) (x9 : Int32), k36 x2 x3 x4 x5 x6 x7 x8 x9 = some (rz) → sm_W sm_sh X (sm_C sm_sh X sm_P D) me_6 Q (36, [some (.ref p0), some (.ref 9), some (.int x2), some (.int x3), some (.int x4), some (.int x5), some (.int x6), some (.int x7), some (.int x8), some (.int x9), none, none], [], 0, 0) (I, J, sm_rf t d)) : sm_W sm_sh X (sm_C sm_sh X sm_P D) me_6 Q (36, [some (.ref p0), some (.ref 9), some (.int x2), some (.int x3), some (.int x4), some (.int x5), some (.int x6), some (.int x7), some (.int x8), some (.int x9), none, none], [], 0, 0) (I, J, sm_rf t d) := by
  unfold F_Choir_ransomed_36B at h
  rcases hp with rfl | rfl
  · skip
    refine sm_W.run (sm_C_mono D) 3 (G := True) (fr' := (if decide ((16384 : Int32) ≤ x9) = true then 84 else 39, [some (.ref 21), some (.ref 9), some (.int x2), some (.int x3), some (.int x4), some (.int x5), some (.int x6), some (.int x7), some (.int x8), some (.int x9), none, none], [], 0, 0)) (M' := (I, J, sm_rf t d)) rfl trivial (sm_W.iteD h (fun hc h => ?_) (fun hc h => ?_))
    · refine sm_W.run (sm_C_mono D) 1 (G := True) (fr' := (85, [some (.ref 21), some (.ref 9), some (.int x2), some (.int x3), some (.int x4), some (.int x5), some (.int x6), some (.int x7), some (.int x8), some (.int x9), none, none], [.int x6], 0, 0)) (M' := (I, J, sm_rf t d)) rfl trivial ?_
      cases h
      exact sm_W.ret (sm_C_mono D) rfl hQ
    · refine sm_W.run (sm_C_mono D) 3 (G := True) (fr' := (42, [some (.ref 21), some (.ref 9), some (.int x2), some (.int x3), some (.int x4), some (.int x5), some (.int x6), some (.int x7), some (.int x8), some (.int x9), none, none], [.int (x8 &&& x3)], 0, 0)) (M' := (I, J, sm_rf t d)) rfl trivial ?_
      obtain ⟨r1, hc, h⟩ := sd_q1_go h
      refine sm_W.cal (sm_C_mono D) (y := 268) (as := [.int (x8 &&& x3)]) (fr' := (43, [some (.ref 21), some (.ref 9), some (.int x2), some (.int x3), some (.int x4), some (.int x5), some (.int x6), some (.int x7), some (.int x8), some (.int x9), none, none], [], 0, 0)) rfl (T_Int_bitCount (by omega) hc ?_)
      show sm_W sm_sh X (sm_C sm_sh X sm_P D) me_6 Q (43, [some (.ref 21), some (.ref 9), some (.int x2), some (.int x3), some (.int x4), some (.int x5), some (.int x6), some (.int x7), some (.int x8), some (.int x9), none, none], [.int r1], 0, 0) (I, J, sm_rf t d)
      refine sm_W.run (sm_C_mono D) 5 (G := True) (fr' := (48, [some (.ref 21), some (.ref 9), some (.int x2), some (.int x3), some (.int x4), some (.int x5), some (.int x6), some (.int x7), some (.int x8), some (.int x9), some (.int r1), none], [.int (x8 &&& x4), .int r1], 0, 0)) (M' := (I, J, sm_rf t d)) rfl trivial ?_
      obtain ⟨r2, hc, h⟩ := sd_q1_go h
      refine sm_W.cal (sm_C_mono D) (y := 268) (as := [.int (x8 &&& x4)]) (fr' := (49, [some (.ref 21), some (.ref 9), some (.int x2), some (.int x3), some (.int x4), some (.int x5), some (.int x6), some (.int x7), some (.int x8), some (.int x9), some (.int r1), none], [.int r1], 0, 0)) rfl (T_Int_bitCount (by omega) hc ?_)
      show sm_W sm_sh X (sm_C sm_sh X sm_P D) me_6 Q (49, [some (.ref 21), some (.ref 9), some (.int x2), some (.int x3), some (.int x4), some (.int x5), some (.int x6), some (.int x7), some (.int x8), some (.int x9), some (.int r1), none], [.int r2, .int r1], 0, 0) (I, J, sm_rf t d)
      refine sm_W.run (sm_C_mono D) 1 (G := True) (fr' := (if decide (¬ r1 = r2) = true then 52 else 50, [some (.ref 21), some (.ref 9), some (.int x2), some (.int x3), some (.int x4), some (.int x5), some (.int x6), some (.int x7), some (.int x8), some (.int x9), some (.int r1), none], [], 0, 0)) (M' := (I, J, sm_rf t d)) rfl trivial (sm_W.iteD h (fun hc h => ?_) (fun hc h => ?_))
      · refine sm_W.run (sm_C_mono D) 1 (G := True) (fr' := (53, [some (.ref 21), some (.ref 9), some (.int x2), some (.int x3), some (.int x4), some (.int x5), some (.int x6), some (.int x7), some (.int x8), some (.int x9), some (.int r1), none], [.int (0 : Int32)], 0, 0)) (M' := (I, J, sm_rf t d)) rfl trivial ?_
        exact (G_Choir_ransomed_53 hD (by decide) h hQ hk36)
      · refine sm_W.run (sm_C_mono D) 2 (G := True) (fr' := (53, [some (.ref 21), some (.ref 9), some (.int x2), some (.int x3), some (.int x4), some (.int x5), some (.int x6), some (.int x7), some (.int x8), some (.int x9), some (.int r1), none], [.int (1 : Int32)], 0, 0)) (M' := (I, J, sm_rf t d)) rfl trivial ?_
        exact (G_Choir_ransomed_53 hD (by decide) h hQ hk36)
  · skip
    refine sm_W.run (sm_C_mono D) 3 (G := True) (fr' := (if decide ((16384 : Int32) ≤ x9) = true then 84 else 39, [some (.ref 41), some (.ref 9), some (.int x2), some (.int x3), some (.int x4), some (.int x5), some (.int x6), some (.int x7), some (.int x8), some (.int x9), none, none], [], 0, 0)) (M' := (I, J, sm_rf t d)) rfl trivial (sm_W.iteD h (fun hc h => ?_) (fun hc h => ?_))
    · refine sm_W.run (sm_C_mono D) 1 (G := True) (fr' := (85, [some (.ref 41), some (.ref 9), some (.int x2), some (.int x3), some (.int x4), some (.int x5), some (.int x6), some (.int x7), some (.int x8), some (.int x9), none, none], [.int x6], 0, 0)) (M' := (I, J, sm_rf t d)) rfl trivial ?_
      cases h
      exact sm_W.ret (sm_C_mono D) rfl hQ
    · refine sm_W.run (sm_C_mono D) 3 (G := True) (fr' := (42, [some (.ref 41), some (.ref 9), some (.int x2), some (.int x3), some (.int x4), some (.int x5), some (.int x6), some (.int x7), some (.int x8), some (.int x9), none, none], [.int (x8 &&& x3)], 0, 0)) (M' := (I, J, sm_rf t d)) rfl trivial ?_
      obtain ⟨r1, hc, h⟩ := sd_q1_go h
      refine sm_W.cal (sm_C_mono D) (y := 268) (as := [.int (x8 &&& x3)]) (fr' := (43, [some (.ref 41), some (.ref 9), some (.int x2), some (.int x3), some (.int x4), some (.int x5), some (.int x6), some (.int x7), some (.int x8), some (.int x9), none, none], [], 0, 0)) rfl (T_Int_bitCount (by omega) hc ?_)
      show sm_W sm_sh X (sm_C sm_sh X sm_P D) me_6 Q (43, [some (.ref 41), some (.ref 9), some (.int x2), some (.int x3), some (.int x4), some (.int x5), some (.int x6), some (.int x7), some (.int x8), some (.int x9), none, none], [.int r1], 0, 0) (I, J, sm_rf t d)
      refine sm_W.run (sm_C_mono D) 5 (G := True) (fr' := (48, [some (.ref 41), some (.ref 9), some (.int x2), some (.int x3), some (.int x4), some (.int x5), some (.int x6), some (.int x7), some (.int x8), some (.int x9), some (.int r1), none], [.int (x8 &&& x4), .int r1], 0, 0)) (M' := (I, J, sm_rf t d)) rfl trivial ?_
      obtain ⟨r2, hc, h⟩ := sd_q1_go h
      refine sm_W.cal (sm_C_mono D) (y := 268) (as := [.int (x8 &&& x4)]) (fr' := (49, [some (.ref 41), some (.ref 9), some (.int x2), some (.int x3), some (.int x4), some (.int x5), some (.int x6), some (.int x7), some (.int x8), some (.int x9), some (.int r1), none], [.int r1], 0, 0)) rfl (T_Int_bitCount (by omega) hc ?_)
      show sm_W sm_sh X (sm_C sm_sh X sm_P D) me_6 Q (49, [some (.ref 41), some (.ref 9), some (.int x2), some (.int x3), some (.int x4), some (.int x5), some (.int x6), some (.int x7), some (.int x8), some (.int x9), some (.int r1), none], [.int r2, .int r1], 0, 0) (I, J, sm_rf t d)
      refine sm_W.run (sm_C_mono D) 1 (G := True) (fr' := (if decide (¬ r1 = r2) = true then 52 else 50, [some (.ref 41), some (.ref 9), some (.int x2), some (.int x3), some (.int x4), some (.int x5), some (.int x6), some (.int x7), some (.int x8), some (.int x9), some (.int r1), none], [], 0, 0)) (M' := (I, J, sm_rf t d)) rfl trivial (sm_W.iteD h (fun hc h => ?_) (fun hc h => ?_))
      · refine sm_W.run (sm_C_mono D) 1 (G := True) (fr' := (53, [some (.ref 41), some (.ref 9), some (.int x2), some (.int x3), some (.int x4), some (.int x5), some (.int x6), some (.int x7), some (.int x8), some (.int x9), some (.int r1), none], [.int (0 : Int32)], 0, 0)) (M' := (I, J, sm_rf t d)) rfl trivial ?_
        exact (G_Choir_ransomed_53 hD (by decide) h hQ hk36)
      · refine sm_W.run (sm_C_mono D) 2 (G := True) (fr' := (53, [some (.ref 41), some (.ref 9), some (.int x2), some (.int x3), some (.int x4), some (.int x5), some (.int x6), some (.int x7), some (.int x8), some (.int x9), some (.int r1), none], [.int (1 : Int32)], 0, 0)) (M' := (I, J, sm_rf t d)) rfl trivial ?_
        exact (G_Choir_ransomed_53 hD (by decide) h hQ hk36)
theorem G_Choir_ransomed_36 {X : Nat × (Nat → Int32)} {t d D : Nat} {Q : sm_Q} {I : sm_MI} {J : sm_MJ} {p0 : Nat} {rz : Int32}
    (hD : 2 ≤ D) (hp : (p0 = 21) ∨ (p0 = 41)) (hQ : Q (.inl (some (.int rz))) (I, J, sm_rf t d))  : ∀ (n : Nat) (x2 : Int32) (x3 : Int32) (x4 : Int32) (x5 : Int32) (x6 : Int32) (x7 : Int32) (x8 : Int32) (x9 : Int32), F_Choir_ransomed_36 p0 I n x2 x3 x4 x5 x6 x7 x8 x9 = some (rz) → sm_W sm_sh X (sm_C sm_sh X sm_P D) me_6 Q (36, [some (.ref p0), some (.ref 9), some (.int x2), some (.int x3), some (.int x4), some (.int x5), some (.int x6), some (.int x7), some (.int x8), some (.int x9), none, none], [], 0, 0) (I, J, sm_rf t d) := by
  intro n
  induction n with
  | zero => intro x2 x3 x4 x5 x6 x7 x8 x9 h; cases (show (none : Option (Int32)) = some (rz) from h)
  | succ n ih => intro x2 x3 x4 x5 x6 x7 x8 x9 h; exact G_Choir_ransomed_36B hD hp (show F_Choir_ransomed_36B p0 (F_Choir_ransomed_36 p0 I n) x2 x3 x4 x5 x6 x7 x8 x9 I = some (rz) from h) hQ  ih
theorem G_Choir_ransomed {X : Nat × (Nat → Int32)} {t d D : Nat} {Q : sm_Q} {I : sm_MI} {J : sm_MJ} {p0 : Nat} {x2 : Int32} {rz : Int32}
    (hD : 2 ≤ D) (hp : (p0 = 21) ∨ (p0 = 41)) (h : F_Choir_ransomed p0 x2 I = some (rz)) (hQ : Q (.inl (some (.int rz))) (I, J, sm_rf t d))  : sm_W sm_sh X (sm_C sm_sh X sm_P D) me_6 Q (0, [some (.ref p0), some (.ref 9), some (.int x2), none, none, none, none, none, none, none, none, none], [], 0, 0) (I, J, sm_rf t d) := by
  unfold F_Choir_ransomed at h
  rcases hp with rfl | rfl
  · skip
    refine sm_W.run (sm_C_mono D) 2 (G := True) (fr' := (2, [some (.ref 21), some (.ref 9), some (.int x2), none, none, none, none, none, none, none, none, none], [.int (0 : Int32), .ref 21], 0, 0)) (M' := (I, J, sm_rf t d)) rfl trivial ?_
    obtain ⟨r1, hc, h⟩ := sd_q1_go h
    refine sm_W.cal (sm_C_mono D) (y := 83) (as := [.ref 21, .int (0 : Int32)]) (fr' := (3, [some (.ref 21), some (.ref 9), some (.int x2), none, none, none, none, none, none, none, none, none], [], 0, 0)) rfl (T_Valley_ofSide (by omega) (by decide) hc ?_)
    show sm_W sm_sh X (sm_C sm_sh X sm_P D) me_6 Q (3, [some (.ref 21), some (.ref 9), some (.int x2), none, none, none, none, none, none, none, none, none], [.int r1], 0, 0) (I, J, sm_rf t d)
    refine sm_W.runL (sm_C_mono D) 4 (G := True) (e := (r1 &&& (I 9 1))) (fr' := fun a2 => (7, [some (.ref 21), some (.ref 9), some (.int x2), some (.int a2), none, none, none, none, none, none, none, none], [], 0, 0)) (M' := fun _ => (I, J, sm_rf t d)) rfl h trivial (fun a2 h => ?_)
    refine sm_W.run (sm_C_mono D) 2 (G := True) (fr' := (9, [some (.ref 21), some (.ref 9), some (.int x2), some (.int a2), none, none, none, none, none, none, none, none], [.int (1 : Int32), .ref 21], 0, 0)) (M' := (I, J, sm_rf t d)) rfl trivial ?_
    obtain ⟨r3, hc, h⟩ := sd_q1_go h
    refine sm_W.cal (sm_C_mono D) (y := 83) (as := [.ref 21, .int (1 : Int32)]) (fr' := (10, [some (.ref 21), some (.ref 9), some (.int x2), some (.int a2), none, none, none, none, none, none, none, none], [], 0, 0)) rfl (T_Valley_ofSide (by omega) (by decide) hc ?_)
    show sm_W sm_sh X (sm_C sm_sh X sm_P D) me_6 Q (10, [some (.ref 21), some (.ref 9), some (.int x2), some (.int a2), none, none, none, none, none, none, none, none], [.int r3], 0, 0) (I, J, sm_rf t d)
    refine sm_W.runL (sm_C_mono D) 4 (G := True) (e := (r3 &&& (I 9 1))) (fr' := fun a4 => (14, [some (.ref 21), some (.ref 9), some (.int x2), some (.int a2), some (.int a4), none, none, none, none, none, none, none], [], 0, 0)) (M' := fun _ => (I, J, sm_rf t d)) rfl h trivial (fun a4 h => ?_)
    refine sm_W.runL (sm_C_mono D) 4 (G := True) (e := (a2 ||| a4)) (fr' := fun a5 => (18, [some (.ref 21), some (.ref 9), some (.int x2), some (.int a2), some (.int a4), some (.int a5), none, none, none, none, none, none], [], 0, 0)) (M' := fun _ => (I, J, sm_rf t d)) rfl h trivial (fun a5 h => ?_)
    refine sm_W.run (sm_C_mono D) 6 (G := True) (fr' := (24, [some (.ref 21), some (.ref 9), some (.int x2), some (.int a2), some (.int a4), some (.int a5), none, none, none, none, none, none], [.int ((I 9 0) ||| a5), .int x2, .ref 21], 0, 0)) (M' := (I, J, sm_rf t d)) rfl trivial ?_
    obtain ⟨r6, hc, h⟩ := sd_q1_go h
    refine sm_W.cal (sm_C_mono D) (y := 88) (as := [.ref 21, .int x2, .int ((I 9 0) ||| a5)]) (fr' := (25, [some (.ref 21), some (.ref 9), some (.int x2), some (.int a2), some (.int a4), some (.int a5), none, none, none, none, none, none], [], 0, 0)) rfl (T_Valley_canBeSung (by omega) (by decide) hc ?_)
    show sm_W sm_sh X (sm_C sm_sh X sm_P D) me_6 Q (25, [some (.ref 21), some (.ref 9), some (.int x2), some (.int a2), some (.int a4), some (.int a5), none, none, none, none, none, none], [.int r6], 0, 0) (I, J, sm_rf t d)
    refine sm_W.run (sm_C_mono D) 1 (G := True) (fr' := (if decide (¬ r6 = 0) = true then 28 else 26, [some (.ref 21), some (.ref 9), some (.int x2), some (.int a2), some (.int a4), some (.int a5), none, none, none, none, none, none], [], 0, 0)) (M' := (I, J, sm_rf t d)) rfl trivial (sm_W.iteD h (fun hc h => ?_) (fun hc h => ?_))
    · refine sm_W.run (sm_C_mono D) 8 (G := True) (fr' := (36, [some (.ref 21), some (.ref 9), some (.int x2), some (.int a2), some (.int a4), some (.int a5), some (.int (-1 : Int32)), some (.int (1000 : Int32)), some (.int (0 : Int32)), some (.int (0 : Int32)), none, none], [], 0, 0)) (M' := (I, J, sm_rf t d)) rfl trivial ?_
      exact (G_Choir_ransomed_36 hD (by decide) hQ sd_fu _ _ _ _ _ _ _ _ h)
    · refine sm_W.run (sm_C_mono D) 1 (G := True) (fr' := (27, [some (.ref 21), some (.ref 9), some (.int x2), some (.int a2), some (.int a4), some (.int a5), none, none, none, none, none, none], [.int (-1 : Int32)], 0, 0)) (M' := (I, J, sm_rf t d)) rfl trivial ?_
      cases h
      exact sm_W.ret (sm_C_mono D) rfl hQ
  · skip
    refine sm_W.run (sm_C_mono D) 2 (G := True) (fr' := (2, [some (.ref 41), some (.ref 9), some (.int x2), none, none, none, none, none, none, none, none, none], [.int (0 : Int32), .ref 41], 0, 0)) (M' := (I, J, sm_rf t d)) rfl trivial ?_
    obtain ⟨r1, hc, h⟩ := sd_q1_go h
    refine sm_W.cal (sm_C_mono D) (y := 83) (as := [.ref 41, .int (0 : Int32)]) (fr' := (3, [some (.ref 41), some (.ref 9), some (.int x2), none, none, none, none, none, none, none, none, none], [], 0, 0)) rfl (T_Valley_ofSide (by omega) (by decide) hc ?_)
    show sm_W sm_sh X (sm_C sm_sh X sm_P D) me_6 Q (3, [some (.ref 41), some (.ref 9), some (.int x2), none, none, none, none, none, none, none, none, none], [.int r1], 0, 0) (I, J, sm_rf t d)
    refine sm_W.runL (sm_C_mono D) 4 (G := True) (e := (r1 &&& (I 9 1))) (fr' := fun a2 => (7, [some (.ref 41), some (.ref 9), some (.int x2), some (.int a2), none, none, none, none, none, none, none, none], [], 0, 0)) (M' := fun _ => (I, J, sm_rf t d)) rfl h trivial (fun a2 h => ?_)
    refine sm_W.run (sm_C_mono D) 2 (G := True) (fr' := (9, [some (.ref 41), some (.ref 9), some (.int x2), some (.int a2), none, none, none, none, none, none, none, none], [.int (1 : Int32), .ref 41], 0, 0)) (M' := (I, J, sm_rf t d)) rfl trivial ?_
    obtain ⟨r3, hc, h⟩ := sd_q1_go h
    refine sm_W.cal (sm_C_mono D) (y := 83) (as := [.ref 41, .int (1 : Int32)]) (fr' := (10, [some (.ref 41), some (.ref 9), some (.int x2), some (.int a2), none, none, none, none, none, none, none, none], [], 0, 0)) rfl (T_Valley_ofSide (by omega) (by decide) hc ?_)
    show sm_W sm_sh X (sm_C sm_sh X sm_P D) me_6 Q (10, [some (.ref 41), some (.ref 9), some (.int x2), some (.int a2), none, none, none, none, none, none, none, none], [.int r3], 0, 0) (I, J, sm_rf t d)
    refine sm_W.runL (sm_C_mono D) 4 (G := True) (e := (r3 &&& (I 9 1))) (fr' := fun a4 => (14, [some (.ref 41), some (.ref 9), some (.int x2), some (.int a2), some (.int a4), none, none, none, none, none, none, none], [], 0, 0)) (M' := fun _ => (I, J, sm_rf t d)) rfl h trivial (fun a4 h => ?_)
    refine sm_W.runL (sm_C_mono D) 4 (G := True) (e := (a2 ||| a4)) (fr' := fun a5 => (18, [some (.ref 41), some (.ref 9), some (.int x2), some (.int a2), some (.int a4), some (.int a5), none, none, none, none, none, none], [], 0, 0)) (M' := fun _ => (I, J, sm_rf t d)) rfl h trivial (fun a5 h => ?_)
    refine sm_W.run (sm_C_mono D) 6 (G := True) (fr' := (24, [some (.ref 41), some (.ref 9), some (.int x2), some (.int a2), some (.int a4), some (.int a5), none, none, none, none, none, none], [.int ((I 9 0) ||| a5), .int x2, .ref 41], 0, 0)) (M' := (I, J, sm_rf t d)) rfl trivial ?_
    obtain ⟨r6, hc, h⟩ := sd_q1_go h
    refine sm_W.cal (sm_C_mono D) (y := 88) (as := [.ref 41, .int x2, .int ((I 9 0) ||| a5)]) (fr' := (25, [some (.ref 41), some (.ref 9), some (.int x2), some (.int a2), some (.int a4), some (.int a5), none, none, none, none, none, none], [], 0, 0)) rfl (T_Valley_canBeSung (by omega) (by decide) hc ?_)
    show sm_W sm_sh X (sm_C sm_sh X sm_P D) me_6 Q (25, [some (.ref 41), some (.ref 9), some (.int x2), some (.int a2), some (.int a4), some (.int a5), none, none, none, none, none, none], [.int r6], 0, 0) (I, J, sm_rf t d)
    refine sm_W.run (sm_C_mono D) 1 (G := True) (fr' := (if decide (¬ r6 = 0) = true then 28 else 26, [some (.ref 41), some (.ref 9), some (.int x2), some (.int a2), some (.int a4), some (.int a5), none, none, none, none, none, none], [], 0, 0)) (M' := (I, J, sm_rf t d)) rfl trivial (sm_W.iteD h (fun hc h => ?_) (fun hc h => ?_))
    · refine sm_W.run (sm_C_mono D) 8 (G := True) (fr' := (36, [some (.ref 41), some (.ref 9), some (.int x2), some (.int a2), some (.int a4), some (.int a5), some (.int (-1 : Int32)), some (.int (1000 : Int32)), some (.int (0 : Int32)), some (.int (0 : Int32)), none, none], [], 0, 0)) (M' := (I, J, sm_rf t d)) rfl trivial ?_
      exact (G_Choir_ransomed_36 hD (by decide) hQ sd_fu _ _ _ _ _ _ _ _ h)
    · refine sm_W.run (sm_C_mono D) 1 (G := True) (fr' := (27, [some (.ref 41), some (.ref 9), some (.int x2), some (.int a2), some (.int a4), some (.int a5), none, none, none, none, none, none], [.int (-1 : Int32)], 0, 0)) (M' := (I, J, sm_rf t d)) rfl trivial ?_
      cases h
      exact sm_W.ret (sm_C_mono D) rfl hQ
theorem T_Choir_ransomed {X : Nat × (Nat → Int32)} {t d D : Nat} {Q : sm_Q} {I : sm_MI} {J : sm_MJ} {p0 : Nat} {x2 : Int32} {rz : Int32}
    (hD : 3 ≤ D) (hp : (p0 = 21) ∨ (p0 = 41)) (h : F_Choir_ransomed p0 x2 I = some (rz)) (hQ : Q (.inl (some (.int rz))) (I, J, sm_rf t d)) : sm_C sm_sh X sm_P D 6 [.ref p0, .ref 9, .int x2] (I, J, sm_rf t d) Q := by
  cases D with
  | zero => omega
  | succ D => exact sm_C.of (me := me_6) (L := [some (.ref p0), some (.ref 9), some (.int x2), none, none, none, none, none, none, none, none, none]) rfl rfl rfl (sm_W.forget (L' := [some (.ref p0), some (.ref 9), some (.int x2), none, none, none, none, none, none, none, none, none]) ⟨rfl, ⟨rfl, ⟨rfl, trivial⟩⟩⟩ (G_Choir_ransomed (by omega) hp h hQ))
-- 7 Choir_bestExchange
noncomputable def F_Choir_bestExchange_29B (p0 : Nat) (k24 : Int32 → Int32 → Int32 → Int32 → Int32 → Option (Int32)) (k29 : Int32 → Int32 → Int32 → Int32 → Int32 → Int32 → Option (Int32)) (x2 : Int32) (x3 : Int32) (x4 : Int32) (x5 : Int32) (x6 : Int32) (x7 : Int32) (I : sm_MI) : Option (Int32) :=
  if (14 : Int32) ≤ x7 then
    k24 x2 x3 x4 x5 (x6 + (1 : Int32))
  else
    if ((x2 >>> (x6 &&& 31)) &&& (1 : Int32)) = 0 then
      k29 x2 x3 x4 x5 x6 (x7 + (1 : Int32))
    else
      if ((x3 >>> (x7 &&& 31)) &&& (1 : Int32)) = 0 then
        k29 x2 x3 x4 x5 x6 (x7 + (1 : Int32))
      else
        sd_lt (((I 9 0) ||| ((1 : Int32) <<< (x6 &&& 31))) ||| ((1 : Int32) <<< (x7 &&& 31))) fun a1 =>
        sd_q1 (F_Valley_singable p0 a1 I) fun r2 =>
        sd_q1 (F_Int_bitCount r2) fun r3 =>
        if r3 ≤ x4 then
          k29 x2 x3 x4 x5 x6 (x7 + (1 : Int32))
        else
          sd_lt (((100 : Int32) * x6) + x7) fun a4 =>
          k29 x2 x3 r3 a4 x6 (x7 + (1 : Int32))
noncomputable def F_Choir_bestExchange_29 (p0 : Nat) (k24 : Int32 → Int32 → Int32 → Int32 → Int32 → Option (Int32)) (I : sm_MI) (n : Nat) : Int32 → Int32 → Int32 → Int32 → Int32 → Int32 → Option (Int32) :=
  sd_fix (fun k x2 x3 x4 x5 x6 x7 => F_Choir_bestExchange_29B p0 k24 k x2 x3 x4 x5 x6 x7 I) (fun _ _ _ _ _ _ => none) n
noncomputable def F_Choir_bestExchange_24B (p0 : Nat) (k24 : Int32 → Int32 → Int32 → Int32 → Int32 → Option (Int32)) (x2 : Int32) (x3 : Int32) (x4 : Int32) (x5 : Int32) (x6 : Int32) (I : sm_MI) : Option (Int32) :=
  if (14 : Int32) ≤ x6 then
    some (x5)
  else
    F_Choir_bestExchange_29 p0 k24 I sd_fu x2 x3 x4 x5 x6 (0 : Int32)
noncomputable def F_Choir_bestExchange_24 (p0 : Nat) (I : sm_MI) (n : Nat) : Int32 → Int32 → Int32 → Int32 → Int32 → Option (Int32) :=
  sd_fix (fun k x2 x3 x4 x5 x6 => F_Choir_bestExchange_24B p0 k x2 x3 x4 x5 x6 I) (fun _ _ _ _ _ => none) n
noncomputable def F_Choir_bestExchange (p0 : Nat) (I : sm_MI) : Option (Int32) :=
  sd_q1 (F_Valley_ofSide p0 (0 : Int32) I) fun r1 =>
  sd_lt (r1 &&& (I 9 1)) fun a2 =>
  sd_q1 (F_Valley_ofSide p0 (1 : Int32) I) fun r3 =>
  sd_lt (r3 &&& (I 9 1)) fun a4 =>
  sd_q1 (F_Valley_singable p0 (I 9 0) I) fun r5 =>
  sd_q1 (F_Int_bitCount r5) fun r6 =>
  F_Choir_bestExchange_24 p0 I sd_fu a2 a4 r6 (-1 : Int32) (0 : Int32)
theorem G_Choir_bestExchange_29B {X : Nat × (Nat → Int32)} {t d D : Nat} {Q : sm_Q} {I : sm_MI} {J : sm_MJ} {p0 : Nat} {k24 : Int32 → Int32 → Int32 → Int32 → Int32 → Option (Int32)} {k29 : Int32 → Int32 → Int32 → Int32 → Int32 → Int32 → Option (Int32)} {x2 : Int32} {x3 : Int32} {x4 : Int32} {x5 : Int32} {x6 : Int32} {x7 : Int32} {rz : Int32}
    (hD : 3 ≤ D) (hp : (p0 = 21) ∨ (p0 = 41)) (h : F_Choir_bestExchange_29B p0 k24 k29 x2 x3 x4 x5 x6 x7 I = some (rz)) (hQ : Q (.inl (some (.int rz))) (I, J, sm_rf t d)) (hk24 : ∀ (x2 : Int32) (x3 : Int32) (x4 : Int32) (x5 : Int32) (x6 : Int32), k24 x2 x3 x4 x5 x6 = some (rz) → sm_W sm_sh X (sm_C sm_sh X sm_P D) me_7 Q (24, [some (.ref p0), some (.ref 9), some (.int x2), some (.int x3), some (.int x4), some (.int x5), some (.int x6), none, none, none], [], 0, 0) (I, J, sm_rf t d)) (hk29 : ∀ (x2 : Int32) (x3 : Int32) (x4 : Int32) (x5 : Int32) (x6 : Int32) (x7 : Int32), k29 x2 x3 x4 x5 x6 x7 = some (rz) → sm_W sm_sh X (sm_C sm_sh X sm_P D) me_7 Q (29, [some (.ref p0), some (.ref 9), some (.int x2), some (.int x3), some (.int x4), some (.int x5), some (.int x6), some (.int x7), none, none], [], 0, 0) (I, J, sm_rf t d)) : sm_W sm_sh X (sm_C sm_sh X sm_P D) me_7 Q (29, [some (.ref p0), some (.ref 9), some (.int x2), some (.int x3), some (.int x4), some (.int x5), some (.int x6), some (.int x7), none, none], [], 0, 0) (I, J, sm_rf t d) := by
  unfold F_Choir_bestExchange_29B at h
  rcases hp with rfl | rfl
  · skip
    refine sm_W.run (sm_C_mono D) 3 (G := True) (fr' := (if decide ((14 : Int32) ≤ x7) = true then 73 else 32, [some (.ref 21), some (.ref 9), some (.int x2), some (.int x3), some (.int x4), some (.int x5), some (.int x6), some (.int x7), none, none], [], 0, 0)) (M' := (I, J, sm_rf t d)) rfl trivial (sm_W.iteD h (fun hc h => ?_) (fun hc h => ?_))
    · refine sm_W.run (sm_C_mono D) 2 (G := True) (fr' := (24, [some (.ref 21), some (.ref 9), some (.int x2), some (.int x3), some (.int x4), some (.int x5), some (.int (x6 + (1 : Int32))), some (.int x7), none, none], [], 0, 0)) (M' := (I, J, sm_rf t d)) rfl trivial ?_
      exact sm_W.forget (L' := [some (.ref 21), some (.ref 9), some (.int x2), some (.int x3), some (.int x4), some (.int x5), some (.int (x6 + (1 : Int32))), none, none, none]) ⟨rfl, ⟨rfl, ⟨rfl, ⟨rfl, ⟨rfl, ⟨rfl, ⟨rfl, trivial⟩⟩⟩⟩⟩⟩⟩ (hk24 _ _ _ _ _ h)
    · refine sm_W.run (sm_C_mono D) 6 (G := True) (fr' := (if decide (((x2 >>> (x6 &&& 31)) &&& (1 : Int32)) = 0) = true then 71 else 38, [some (.ref 21), some (.ref 9), some (.int x2), some (.int x3), some (.int x4), some (.int x5), some (.int x6), some (.int x7), none, none], [], 0, 0)) (M' := (I, J, sm_rf t d)) rfl trivial (sm_W.iteD h (fun hc h => ?_) (fun hc h => ?_))
      · refine sm_W.run (sm_C_mono D) 2 (G := True) (fr' := (29, [some (.ref 21), some (.ref 9), some (.int x2), some (.int x3), some (.int x4), some (.int x5), some (.int x6), some (.int (x7 + (1 : Int32))), none, none], [], 0, 0)) (M' := (I, J, sm_rf t d)) rfl trivial ?_
        exact (hk29 _ _ _ _ _ _ h)
      · refine sm_W.run (sm_C_mono D) 6 (G := True) (fr' := (if decide (((x3 >>> (x7 &&& 31)) &&& (1 : Int32)) = 0) = true then 71 else 44, [some (.ref 21), some (.ref 9), some (.int x2), some (.int x3), some (.int x4), some (.int x5), some (.int x6), some (.int x7), none, none], [], 0, 0)) (M' := (I, J, sm_rf t d)) rfl trivial (sm_W.iteD h (fun hc h => ?_) (fun hc h => ?_))
        · refine sm_W.run (sm_C_mono D) 2 (G := True) (fr' := (29, [some (.ref 21), some (.ref 9), some (.int x2), some (.int x3), some (.int x4), some (.int x5), some (.int x6), some (.int (x7 + (1 : Int32))), none, none], [], 0, 0)) (M' := (I, J, sm_rf t d)) rfl trivial ?_
          exact (hk29 _ _ _ _ _ _ h)
        · refine sm_W.runL (sm_C_mono D) 11 (G := True) (e := (((I 9 0) ||| ((1 : Int32) <<< (x6 &&& 31))) ||| ((1 : Int32) <<< (x7 &&& 31)))) (fr' := fun a1 => (55, [some (.ref 21), some (.ref 9), some (.int x2), some (.int x3), some (.int x4), some (.int x5), some (.int x6), some (.int x7), some (.int a1), none], [], 0, 0)) (M' := fun _ => (I, J, sm_rf t d)) rfl h trivial (fun a1 h => ?_)
          refine sm_W.run (sm_C_mono D) 2 (G := True) (fr' := (57, [some (.ref 21), some (.ref 9), some (.int x2), some (.int x3), some (.int x4), some (.int x5), some (.int x6), some (.int x7), some (.int a1), none], [.int a1, .ref 21], 0, 0)) (M' := (I, J, sm_rf t d)) rfl trivial ?_
          obtain ⟨r2, hc, h⟩ := sd_q1_go h
          refine sm_W.cal (sm_C_mono D) (y := 89) (as := [.ref 21, .int a1]) (fr' := (58, [some (.ref 21), some (.ref 9), some (.int x2), some (.int x3), some (.int x4), some (.int x5), some (.int x6), some (.int x7), some (.int a1), none], [], 0, 0)) rfl (T_Valley_singable (by omega) (by decide) hc ?_)
          show sm_W sm_sh X (sm_C sm_sh X sm_P D) me_7 Q (58, [some (.ref 21), some (.ref 9), some (.int x2), some (.int x3), some (.int x4), some (.int x5), some (.int x6), some (.int x7), some (.int a1), none], [.int r2], 0, 0) (I, J, sm_rf t d)
          obtain ⟨r3, hc, h⟩ := sd_q1_go h
          refine sm_W.cal (sm_C_mono D) (y := 268) (as := [.int r2]) (fr' := (59, [some (.ref 21), some (.ref 9), some (.int x2), some (.int x3), some (.int x4), some (.int x5), some (.int x6), some (.int x7), some (.int a1), none], [], 0, 0)) rfl (T_Int_bitCount (by omega) hc ?_)
          show sm_W sm_sh X (sm_C sm_sh X sm_P D) me_7 Q (59, [some (.ref 21), some (.ref 9), some (.int x2), some (.int x3), some (.int x4), some (.int x5), some (.int x6), some (.int x7), some (.int a1), none], [.int r3], 0, 0) (I, J, sm_rf t d)
          refine sm_W.run (sm_C_mono D) 4 (G := True) (fr' := (if decide (r3 ≤ x4) = true then 71 else 63, [some (.ref 21), some (.ref 9), some (.int x2), some (.int x3), some (.int x4), some (.int x5), some (.int x6), some (.int x7), some (.int a1), some (.int r3)], [], 0, 0)) (M' := (I, J, sm_rf t d)) rfl trivial (sm_W.iteD h (fun hc h => ?_) (fun hc h => ?_))
          · refine sm_W.run (sm_C_mono D) 2 (G := True) (fr' := (29, [some (.ref 21), some (.ref 9), some (.int x2), some (.int x3), some (.int x4), some (.int x5), some (.int x6), some (.int (x7 + (1 : Int32))), some (.int a1), some (.int r3)], [], 0, 0)) (M' := (I, J, sm_rf t d)) rfl trivial ?_
            exact sm_W.forget (L' := [some (.ref 21), some (.ref 9), some (.int x2), some (.int x3), some (.int x4), some (.int x5), some (.int x6), some (.int (x7 + (1 : Int32))), none, none]) ⟨rfl, ⟨rfl, ⟨rfl, ⟨rfl, ⟨rfl, ⟨rfl, ⟨rfl, ⟨rfl, trivial⟩⟩⟩⟩⟩⟩⟩⟩ (hk29 _ _ _ _ _ _ h)
          · refine sm_W.runL (sm_C_mono D) 8 (G := True) (e := (((100 : Int32) * x6) + x7)) (fr' := fun a4 => (71, [some (.ref 21), some (.ref 9), some (.int x2), some (.int x3), some (.int r3), some (.int a4), some (.int x6), some (.int x7), some (.int a1), some (.int r3)], [], 0, 0)) (M' := fun _ => (I, J, sm_rf t d)) rfl h trivial (fun a4 h => ?_)
            refine sm_W.run (sm_C_mono D) 2 (G := True) (fr' := (29, [some (.ref 21), some (.ref 9), some (.int x2), some (.int x3), some (.int r3), some (.int a4), some (.int x6), some (.int (x7 + (1 : Int32))), some (.int a1), some (.int r3)], [], 0, 0)) (M' := (I, J, sm_rf t d)) rfl trivial ?_
            exact sm_W.forget (L' := [some (.ref 21), some (.ref 9), some (.int x2), some (.int x3), some (.int r3), some (.int a4), some (.int x6), some (.int (x7 + (1 : Int32))), none, none]) ⟨rfl, ⟨rfl, ⟨rfl, ⟨rfl, ⟨rfl, ⟨rfl, ⟨rfl, ⟨rfl, trivial⟩⟩⟩⟩⟩⟩⟩⟩ (hk29 _ _ _ _ _ _ h)
  · skip
    refine sm_W.run (sm_C_mono D) 3 (G := True) (fr' := (if decide ((14 : Int32) ≤ x7) = true then 73 else 32, [some (.ref 41), some (.ref 9), some (.int x2), some (.int x3), some (.int x4), some (.int x5), some (.int x6), some (.int x7), none, none], [], 0, 0)) (M' := (I, J, sm_rf t d)) rfl trivial (sm_W.iteD h (fun hc h => ?_) (fun hc h => ?_))
    · refine sm_W.run (sm_C_mono D) 2 (G := True) (fr' := (24, [some (.ref 41), some (.ref 9), some (.int x2), some (.int x3), some (.int x4), some (.int x5), some (.int (x6 + (1 : Int32))), some (.int x7), none, none], [], 0, 0)) (M' := (I, J, sm_rf t d)) rfl trivial ?_
      exact sm_W.forget (L' := [some (.ref 41), some (.ref 9), some (.int x2), some (.int x3), some (.int x4), some (.int x5), some (.int (x6 + (1 : Int32))), none, none, none]) ⟨rfl, ⟨rfl, ⟨rfl, ⟨rfl, ⟨rfl, ⟨rfl, ⟨rfl, trivial⟩⟩⟩⟩⟩⟩⟩ (hk24 _ _ _ _ _ h)
    · refine sm_W.run (sm_C_mono D) 6 (G := True) (fr' := (if decide (((x2 >>> (x6 &&& 31)) &&& (1 : Int32)) = 0) = true then 71 else 38, [some (.ref 41), some (.ref 9), some (.int x2), some (.int x3), some (.int x4), some (.int x5), some (.int x6), some (.int x7), none, none], [], 0, 0)) (M' := (I, J, sm_rf t d)) rfl trivial (sm_W.iteD h (fun hc h => ?_) (fun hc h => ?_))
      · refine sm_W.run (sm_C_mono D) 2 (G := True) (fr' := (29, [some (.ref 41), some (.ref 9), some (.int x2), some (.int x3), some (.int x4), some (.int x5), some (.int x6), some (.int (x7 + (1 : Int32))), none, none], [], 0, 0)) (M' := (I, J, sm_rf t d)) rfl trivial ?_
        exact (hk29 _ _ _ _ _ _ h)
      · refine sm_W.run (sm_C_mono D) 6 (G := True) (fr' := (if decide (((x3 >>> (x7 &&& 31)) &&& (1 : Int32)) = 0) = true then 71 else 44, [some (.ref 41), some (.ref 9), some (.int x2), some (.int x3), some (.int x4), some (.int x5), some (.int x6), some (.int x7), none, none], [], 0, 0)) (M' := (I, J, sm_rf t d)) rfl trivial (sm_W.iteD h (fun hc h => ?_) (fun hc h => ?_))
        · refine sm_W.run (sm_C_mono D) 2 (G := True) (fr' := (29, [some (.ref 41), some (.ref 9), some (.int x2), some (.int x3), some (.int x4), some (.int x5), some (.int x6), some (.int (x7 + (1 : Int32))), none, none], [], 0, 0)) (M' := (I, J, sm_rf t d)) rfl trivial ?_
          exact (hk29 _ _ _ _ _ _ h)
        · refine sm_W.runL (sm_C_mono D) 11 (G := True) (e := (((I 9 0) ||| ((1 : Int32) <<< (x6 &&& 31))) ||| ((1 : Int32) <<< (x7 &&& 31)))) (fr' := fun a1 => (55, [some (.ref 41), some (.ref 9), some (.int x2), some (.int x3), some (.int x4), some (.int x5), some (.int x6), some (.int x7), some (.int a1), none], [], 0, 0)) (M' := fun _ => (I, J, sm_rf t d)) rfl h trivial (fun a1 h => ?_)
          refine sm_W.run (sm_C_mono D) 2 (G := True) (fr' := (57, [some (.ref 41), some (.ref 9), some (.int x2), some (.int x3), some (.int x4), some (.int x5), some (.int x6), some (.int x7), some (.int a1), none], [.int a1, .ref 41], 0, 0)) (M' := (I, J, sm_rf t d)) rfl trivial ?_
          obtain ⟨r2, hc, h⟩ := sd_q1_go h
          refine sm_W.cal (sm_C_mono D) (y := 89) (as := [.ref 41, .int a1]) (fr' := (58, [some (.ref 41), some (.ref 9), some (.int x2), some (.int x3), some (.int x4), some (.int x5), some (.int x6), some (.int x7), some (.int a1), none], [], 0, 0)) rfl (T_Valley_singable (by omega) (by decide) hc ?_)
          show sm_W sm_sh X (sm_C sm_sh X sm_P D) me_7 Q (58, [some (.ref 41), some (.ref 9), some (.int x2), some (.int x3), some (.int x4), some (.int x5), some (.int x6), some (.int x7), some (.int a1), none], [.int r2], 0, 0) (I, J, sm_rf t d)
          obtain ⟨r3, hc, h⟩ := sd_q1_go h
          refine sm_W.cal (sm_C_mono D) (y := 268) (as := [.int r2]) (fr' := (59, [some (.ref 41), some (.ref 9), some (.int x2), some (.int x3), some (.int x4), some (.int x5), some (.int x6), some (.int x7), some (.int a1), none], [], 0, 0)) rfl (T_Int_bitCount (by omega) hc ?_)
          show sm_W sm_sh X (sm_C sm_sh X sm_P D) me_7 Q (59, [some (.ref 41), some (.ref 9), some (.int x2), some (.int x3), some (.int x4), some (.int x5), some (.int x6), some (.int x7), some (.int a1), none], [.int r3], 0, 0) (I, J, sm_rf t d)
          refine sm_W.run (sm_C_mono D) 4 (G := True) (fr' := (if decide (r3 ≤ x4) = true then 71 else 63, [some (.ref 41), some (.ref 9), some (.int x2), some (.int x3), some (.int x4), some (.int x5), some (.int x6), some (.int x7), some (.int a1), some (.int r3)], [], 0, 0)) (M' := (I, J, sm_rf t d)) rfl trivial (sm_W.iteD h (fun hc h => ?_) (fun hc h => ?_))
          · refine sm_W.run (sm_C_mono D) 2 (G := True) (fr' := (29, [some (.ref 41), some (.ref 9), some (.int x2), some (.int x3), some (.int x4), some (.int x5), some (.int x6), some (.int (x7 + (1 : Int32))), some (.int a1), some (.int r3)], [], 0, 0)) (M' := (I, J, sm_rf t d)) rfl trivial ?_
            exact sm_W.forget (L' := [some (.ref 41), some (.ref 9), some (.int x2), some (.int x3), some (.int x4), some (.int x5), some (.int x6), some (.int (x7 + (1 : Int32))), none, none]) ⟨rfl, ⟨rfl, ⟨rfl, ⟨rfl, ⟨rfl, ⟨rfl, ⟨rfl, ⟨rfl, trivial⟩⟩⟩⟩⟩⟩⟩⟩ (hk29 _ _ _ _ _ _ h)
          · refine sm_W.runL (sm_C_mono D) 8 (G := True) (e := (((100 : Int32) * x6) + x7)) (fr' := fun a4 => (71, [some (.ref 41), some (.ref 9), some (.int x2), some (.int x3), some (.int r3), some (.int a4), some (.int x6), some (.int x7), some (.int a1), some (.int r3)], [], 0, 0)) (M' := fun _ => (I, J, sm_rf t d)) rfl h trivial (fun a4 h => ?_)
            refine sm_W.run (sm_C_mono D) 2 (G := True) (fr' := (29, [some (.ref 41), some (.ref 9), some (.int x2), some (.int x3), some (.int r3), some (.int a4), some (.int x6), some (.int (x7 + (1 : Int32))), some (.int a1), some (.int r3)], [], 0, 0)) (M' := (I, J, sm_rf t d)) rfl trivial ?_
            exact sm_W.forget (L' := [some (.ref 41), some (.ref 9), some (.int x2), some (.int x3), some (.int r3), some (.int a4), some (.int x6), some (.int (x7 + (1 : Int32))), none, none]) ⟨rfl, ⟨rfl, ⟨rfl, ⟨rfl, ⟨rfl, ⟨rfl, ⟨rfl, ⟨rfl, trivial⟩⟩⟩⟩⟩⟩⟩⟩ (hk29 _ _ _ _ _ _ h)
theorem G_Choir_bestExchange_29 {X : Nat × (Nat → Int32)} {t d D : Nat} {Q : sm_Q} {I : sm_MI} {J : sm_MJ} {p0 : Nat} {k24 : Int32 → Int32 → Int32 → Int32 → Int32 → Option (Int32)} {rz : Int32}
    (hD : 3 ≤ D) (hp : (p0 = 21) ∨ (p0 = 41)) (hQ : Q (.inl (some (.int rz))) (I, J, sm_rf t d)) (hk24 : ∀ (x2 : Int32) (x3 : Int32) (x4 : Int32) (x5 : Int32) (x6 : Int32), k24 x2 x3 x4 x5 x6 = some (rz) → sm_W sm_sh X (sm_C sm_sh X sm_P D) me_7 Q (24, [some (.ref p0), some (.ref 9), some (.int x2), some (.int x3), some (.int x4), some (.int x5), some (.int x6), none, none, none], [], 0, 0) (I, J, sm_rf t d)) : ∀ (n : Nat) (x2 : Int32) (x3 : Int32) (x4 : Int32) (x5 : Int32) (x6 : Int32) (x7 : Int32), F_Choir_bestExchange_29 p0 k24 I n x2 x3 x4 x5 x6 x7 = some (rz) → sm_W sm_sh X (sm_C sm_sh X sm_P D) me_7 Q (29, [some (.ref p0), some (.ref 9), some (.int x2), some (.int x3), some (.int x4), some (.int x5), some (.int x6), some (.int x7), none, none], [], 0, 0) (I, J, sm_rf t d) := by
  intro n
  induction n with
  | zero => intro x2 x3 x4 x5 x6 x7 h; cases (show (none : Option (Int32)) = some (rz) from h)
  | succ n ih => intro x2 x3 x4 x5 x6 x7 h; exact G_Choir_bestExchange_29B hD hp (show F_Choir_bestExchange_29B p0 k24 (F_Choir_bestExchange_29 p0 k24 I n) x2 x3 x4 x5 x6 x7 I = some (rz) from h) hQ hk24 ih
theorem G_Choir_bestExchange_24B {X : Nat × (Nat → Int32)} {t d D : Nat} {Q : sm_Q} {I : sm_MI} {J : sm_MJ} {p0 : Nat} {k24 : Int32 → Int32 → Int32 → Int32 → Int32 → Option (Int32)} {x2 : Int32} {x3 : Int32} {x4 : Int32} {x5 : Int32} {x6 : Int32} {rz : Int32}
    (hD : 3 ≤ D) (hp : (p0 = 21) ∨ (p0 = 41)) (h : F_Choir_bestExchange_24B p0 k24 x2 x3 x4 x5 x6 I = some (rz)) (hQ : Q (.inl (some (.int rz))) (I, J, sm_rf t d)) (hk24 : ∀ (x2 : Int32) (x3 : Int32) (x4 : Int32) (x5 : Int32) (x6 : Int32), k24 x2 x3 x4 x5 x6 = some (rz) → sm_W sm_sh X (sm_C sm_sh X sm_P D) me_7 Q (24, [some (.ref p0), some (.ref 9), some (.int x2), some (.int x3), some (.int x4), some (.int x5), some (.int x6), none, none, none], [], 0, 0) (I, J, sm_rf t d)) : sm_W sm_sh X (sm_C sm_sh X sm_P D) me_7 Q (24, [some (.ref p0), some (.ref 9), some (.int x2), some (.int x3), some (.int x4), some (.int x5), some (.int x6), none, none, none], [], 0, 0) (I, J, sm_rf t d) := by
  unfold F_Choir_bestExchange_24B at h
  rcases hp with rfl | rfl
  · skip
    refine sm_W.run (sm_C_mono D) 3 (G := True) (fr' := (if decide ((14 : Int32) ≤ x6) = true then 75 else 27, [some (.ref 21), some (.ref 9), some (.int x2), some (.int x3), some (.int x4), some (.int x5), some (.int x6), none, none, none], [], 0, 0)) (M' := (I, J, sm_rf t d)) rfl trivial (sm_W.iteD h (fun hc h => ?_) (fun hc h => ?_))
    · refine sm_W.run (sm_C_mono D) 1 (G := True) (fr' := (76, [some (.ref 21), some (.ref 9), some (.int x2), some (.int x3), some (.int x4), some (.int x5), some (.int x6), none, none, none], [.int x5], 0, 0)) (M' := (I, J, sm_rf t d)) rfl trivial ?_
      cases h
      exact sm_W.ret (sm_C_mono D) rfl hQ
    · refine sm_W.run (sm_C_mono D) 2 (G := True) (fr' := (29, [some (.ref 21), some (.ref 9), some (.int x2), some (.int x3), some (.int x4), some (.int x5), some (.int x6), some (.int (0 : Int32)), none, none], [], 0, 0)) (M' := (I, J, sm_rf t d)) rfl trivial ?_
      exact (G_Choir_bestExchange_29 hD (by decide) hQ hk24 sd_fu _ _ _ _ _ _ h)
  · skip
    refine sm_W.run (sm_C_mono D) 3 (G := True) (fr' := (if decide ((14 : Int32) ≤ x6) = true then 75 else 27, [some (.ref 41), some (.ref 9), some (.int x2), some (.int x3), some (.int x4), some (.int x5), some (.int x6), none, none, none], [], 0, 0)) (M' := (I, J, sm_rf t d)) rfl trivial (sm_W.iteD h (fun hc h => ?_) (fun hc h => ?_))
    · refine sm_W.run (sm_C_mono D) 1 (G := True) (fr' := (76, [some (.ref 41), some (.ref 9), some (.int x2), some (.int x3), some (.int x4), some (.int x5), some (.int x6), none, none, none], [.int x5], 0, 0)) (M' := (I, J, sm_rf t d)) rfl trivial ?_
      cases h
      exact sm_W.ret (sm_C_mono D) rfl hQ
    · refine sm_W.run (sm_C_mono D) 2 (G := True) (fr' := (29, [some (.ref 41), some (.ref 9), some (.int x2), some (.int x3), some (.int x4), some (.int x5), some (.int x6), some (.int (0 : Int32)), none, none], [], 0, 0)) (M' := (I, J, sm_rf t d)) rfl trivial ?_
      exact (G_Choir_bestExchange_29 hD (by decide) hQ hk24 sd_fu _ _ _ _ _ _ h)
theorem G_Choir_bestExchange_24 {X : Nat × (Nat → Int32)} {t d D : Nat} {Q : sm_Q} {I : sm_MI} {J : sm_MJ} {p0 : Nat} {rz : Int32}
    (hD : 3 ≤ D) (hp : (p0 = 21) ∨ (p0 = 41)) (hQ : Q (.inl (some (.int rz))) (I, J, sm_rf t d))  : ∀ (n : Nat) (x2 : Int32) (x3 : Int32) (x4 : Int32) (x5 : Int32) (x6 : Int32), F_Choir_bestExchange_24 p0 I n x2 x3 x4 x5 x6 = some (rz) → sm_W sm_sh X (sm_C sm_sh X sm_P D) me_7 Q (24, [some (.ref p0), some (.ref 9), some (.int x2), some (.int x3), some (.int x4), some (.int x5), some (.int x6), none, none, none], [], 0, 0) (I, J, sm_rf t d) := by
  intro n
  induction n with
  | zero => intro x2 x3 x4 x5 x6 h; cases (show (none : Option (Int32)) = some (rz) from h)
  | succ n ih => intro x2 x3 x4 x5 x6 h; exact G_Choir_bestExchange_24B hD hp (show F_Choir_bestExchange_24B p0 (F_Choir_bestExchange_24 p0 I n) x2 x3 x4 x5 x6 I = some (rz) from h) hQ  ih
theorem G_Choir_bestExchange {X : Nat × (Nat → Int32)} {t d D : Nat} {Q : sm_Q} {I : sm_MI} {J : sm_MJ} {p0 : Nat} {rz : Int32}
    (hD : 3 ≤ D) (hp : (p0 = 21) ∨ (p0 = 41)) (h : F_Choir_bestExchange p0 I = some (rz)) (hQ : Q (.inl (some (.int rz))) (I, J, sm_rf t d))  : sm_W sm_sh X (sm_C sm_sh X sm_P D) me_7 Q (0, [some (.ref p0), some (.ref 9), none, none, none, none, none, none, none, none], [], 0, 0) (I, J, sm_rf t d) := by
  unfold F_Choir_bestExchange at h
  rcases hp with rfl | rfl
  · skip
    refine sm_W.run (sm_C_mono D) 2 (G := True) (fr' := (2, [some (.ref 21), some (.ref 9), none, none, none, none, none, none, none, none], [.int (0 : Int32), .ref 21], 0, 0)) (M' := (I, J, sm_rf t d)) rfl trivial ?_
    obtain ⟨r1, hc, h⟩ := sd_q1_go h
    refine sm_W.cal (sm_C_mono D) (y := 83) (as := [.ref 21, .int (0 : Int32)]) (fr' := (3, [some (.ref 21), some (.ref 9), none, none, none, none, none, none, none, none], [], 0, 0)) rfl (T_Valley_ofSide (by omega) (by decide) hc ?_)
    show sm_W sm_sh X (sm_C sm_sh X sm_P D) me_7 Q (3, [some (.ref 21), some (.ref 9), none, none, none, none, none, none, none, none], [.int r1], 0, 0) (I, J, sm_rf t d)
    refine sm_W.runL (sm_C_mono D) 4 (G := True) (e := (r1 &&& (I 9 1))) (fr' := fun a2 => (7, [some (.ref 21), some (.ref 9), some (.int a2), none, none, none, none, none, none, none], [], 0, 0)) (M' := fun _ => (I, J, sm_rf t d)) rfl h trivial (fun a2 h => ?_)
    refine sm_W.run (sm_C_mono D) 2 (G := True) (fr' := (9, [some (.ref 21), some (.ref 9), some (.int a2), none, none, none, none, none, none, none], [.int (1 : Int32), .ref 21], 0, 0)) (M' := (I, J, sm_rf t d)) rfl trivial ?_
    obtain ⟨r3, hc, h⟩ := sd_q1_go h
    refine sm_W.cal (sm_C_mono D) (y := 83) (as := [.ref 21, .int (1 : Int32)]) (fr' := (10, [some (.ref 21), some (.ref 9), some (.int a2), none, none, none, none, none, none, none], [], 0, 0)) rfl (T_Valley_ofSide (by omega) (by decide) hc ?_)
    show sm_W sm_sh X (sm_C sm_sh X sm_P D) me_7 Q (10, [some (.ref 21), some (.ref 9), some (.int a2), none, none, none, none, none, none, none], [.int r3], 0, 0) (I, J, sm_rf t d)
    refine sm_W.runL (sm_C_mono D) 4 (G := True) (e := (r3 &&& (I 9 1))) (fr' := fun a4 => (14, [some (.ref 21), some (.ref 9), some (.int a2), some (.int a4), none, none, none, none, none, none], [], 0, 0)) (M' := fun _ => (I, J, sm_rf t d)) rfl h trivial (fun a4 h => ?_)
    refine sm_W.run (sm_C_mono D) 3 (G := True) (fr' := (17, [some (.ref 21), some (.ref 9), some (.int a2), some (.int a4), none, none, none, none, none, none], [.int (I 9 0), .ref 21], 0, 0)) (M' := (I, J, sm_rf t d)) rfl trivial ?_
    obtain ⟨r5, hc, h⟩ := sd_q1_go h
    refine sm_W.cal (sm_C_mono D) (y := 89) (as := [.ref 21, .int (I 9 0)]) (fr' := (18, [some (.ref 21), some (.ref 9), some (.int a2), some (.int a4), none, none, none, none, none, none], [], 0, 0)) rfl (T_Valley_singable (by omega) (by decide) hc ?_)
    show sm_W sm_sh X (sm_C sm_sh X sm_P D) me_7 Q (18, [some (.ref 21), some (.ref 9), some (.int a2), some (.int a4), none, none, none, none, none, none], [.int r5], 0, 0) (I, J, sm_rf t d)
    obtain ⟨r6, hc, h⟩ := sd_q1_go h
    refine sm_W.cal (sm_C_mono D) (y := 268) (as := [.int r5]) (fr' := (19, [some (.ref 21), some (.ref 9), some (.int a2), some (.int a4), none, none, none, none, none, none], [], 0, 0)) rfl (T_Int_bitCount (by omega) hc ?_)
    show sm_W sm_sh X (sm_C sm_sh X sm_P D) me_7 Q (19, [some (.ref 21), some (.ref 9), some (.int a2), some (.int a4), none, none, none, none, none, none], [.int r6], 0, 0) (I, J, sm_rf t d)
    refine sm_W.run (sm_C_mono D) 5 (G := True) (fr' := (24, [some (.ref 21), some (.ref 9), some (.int a2), some (.int a4), some (.int r6), some (.int (-1 : Int32)), some (.int (0 : Int32)), none, none, none], [], 0, 0)) (M' := (I, J, sm_rf t d)) rfl trivial ?_
    exact (G_Choir_bestExchange_24 hD (by decide) hQ sd_fu _ _ _ _ _ h)
  · skip
    refine sm_W.run (sm_C_mono D) 2 (G := True) (fr' := (2, [some (.ref 41), some (.ref 9), none, none, none, none, none, none, none, none], [.int (0 : Int32), .ref 41], 0, 0)) (M' := (I, J, sm_rf t d)) rfl trivial ?_
    obtain ⟨r1, hc, h⟩ := sd_q1_go h
    refine sm_W.cal (sm_C_mono D) (y := 83) (as := [.ref 41, .int (0 : Int32)]) (fr' := (3, [some (.ref 41), some (.ref 9), none, none, none, none, none, none, none, none], [], 0, 0)) rfl (T_Valley_ofSide (by omega) (by decide) hc ?_)
    show sm_W sm_sh X (sm_C sm_sh X sm_P D) me_7 Q (3, [some (.ref 41), some (.ref 9), none, none, none, none, none, none, none, none], [.int r1], 0, 0) (I, J, sm_rf t d)
    refine sm_W.runL (sm_C_mono D) 4 (G := True) (e := (r1 &&& (I 9 1))) (fr' := fun a2 => (7, [some (.ref 41), some (.ref 9), some (.int a2), none, none, none, none, none, none, none], [], 0, 0)) (M' := fun _ => (I, J, sm_rf t d)) rfl h trivial (fun a2 h => ?_)
    refine sm_W.run (sm_C_mono D) 2 (G := True) (fr' := (9, [some (.ref 41), some (.ref 9), some (.int a2), none, none, none, none, none, none, none], [.int (1 : Int32), .ref 41], 0, 0)) (M' := (I, J, sm_rf t d)) rfl trivial ?_
    obtain ⟨r3, hc, h⟩ := sd_q1_go h
    refine sm_W.cal (sm_C_mono D) (y := 83) (as := [.ref 41, .int (1 : Int32)]) (fr' := (10, [some (.ref 41), some (.ref 9), some (.int a2), none, none, none, none, none, none, none], [], 0, 0)) rfl (T_Valley_ofSide (by omega) (by decide) hc ?_)
    show sm_W sm_sh X (sm_C sm_sh X sm_P D) me_7 Q (10, [some (.ref 41), some (.ref 9), some (.int a2), none, none, none, none, none, none, none], [.int r3], 0, 0) (I, J, sm_rf t d)
    refine sm_W.runL (sm_C_mono D) 4 (G := True) (e := (r3 &&& (I 9 1))) (fr' := fun a4 => (14, [some (.ref 41), some (.ref 9), some (.int a2), some (.int a4), none, none, none, none, none, none], [], 0, 0)) (M' := fun _ => (I, J, sm_rf t d)) rfl h trivial (fun a4 h => ?_)
    refine sm_W.run (sm_C_mono D) 3 (G := True) (fr' := (17, [some (.ref 41), some (.ref 9), some (.int a2), some (.int a4), none, none, none, none, none, none], [.int (I 9 0), .ref 41], 0, 0)) (M' := (I, J, sm_rf t d)) rfl trivial ?_
    obtain ⟨r5, hc, h⟩ := sd_q1_go h
    refine sm_W.cal (sm_C_mono D) (y := 89) (as := [.ref 41, .int (I 9 0)]) (fr' := (18, [some (.ref 41), some (.ref 9), some (.int a2), some (.int a4), none, none, none, none, none, none], [], 0, 0)) rfl (T_Valley_singable (by omega) (by decide) hc ?_)
    show sm_W sm_sh X (sm_C sm_sh X sm_P D) me_7 Q (18, [some (.ref 41), some (.ref 9), some (.int a2), some (.int a4), none, none, none, none, none, none], [.int r5], 0, 0) (I, J, sm_rf t d)
    obtain ⟨r6, hc, h⟩ := sd_q1_go h
    refine sm_W.cal (sm_C_mono D) (y := 268) (as := [.int r5]) (fr' := (19, [some (.ref 41), some (.ref 9), some (.int a2), some (.int a4), none, none, none, none, none, none], [], 0, 0)) rfl (T_Int_bitCount (by omega) hc ?_)
    show sm_W sm_sh X (sm_C sm_sh X sm_P D) me_7 Q (19, [some (.ref 41), some (.ref 9), some (.int a2), some (.int a4), none, none, none, none, none, none], [.int r6], 0, 0) (I, J, sm_rf t d)
    refine sm_W.run (sm_C_mono D) 5 (G := True) (fr' := (24, [some (.ref 41), some (.ref 9), some (.int a2), some (.int a4), some (.int r6), some (.int (-1 : Int32)), some (.int (0 : Int32)), none, none, none], [], 0, 0)) (M' := (I, J, sm_rf t d)) rfl trivial ?_
    exact (G_Choir_bestExchange_24 hD (by decide) hQ sd_fu _ _ _ _ _ h)
theorem T_Choir_bestExchange {X : Nat × (Nat → Int32)} {t d D : Nat} {Q : sm_Q} {I : sm_MI} {J : sm_MJ} {p0 : Nat} {rz : Int32}
    (hD : 4 ≤ D) (hp : (p0 = 21) ∨ (p0 = 41)) (h : F_Choir_bestExchange p0 I = some (rz)) (hQ : Q (.inl (some (.int rz))) (I, J, sm_rf t d)) : sm_C sm_sh X sm_P D 7 [.ref p0, .ref 9] (I, J, sm_rf t d) Q := by
  cases D with
  | zero => omega
  | succ D => exact sm_C.of (me := me_7) (L := [some (.ref p0), some (.ref 9), none, none, none, none, none, none, none, none]) rfl rfl rfl (sm_W.forget (L' := [some (.ref p0), some (.ref 9), none, none, none, none, none, none, none, none]) ⟨rfl, ⟨rfl, trivial⟩⟩ (G_Choir_bestExchange (by omega) hp h hQ))
-- 9 Choir_enoughFor
noncomputable def F_Choir_enoughFor_11B (p0 : Nat) (k2 : Int32 → Int32 → Int32 → Option (Int32)) (k11 : Int32 → Int32 → Int32 → Int32 → Int32 → Int32 → Option (Int32)) (x1 : Int32) (x2 : Int32) (x3 : Int32) (x4 : Int32) (x5 : Int32) (x6 : Int32) (I : sm_MI) : Option (Int32) :=
  if (5 : Int32) ≤ x6 then
    sd_q1 (F_Int_bitCount x4) fun r1 =>
    if x5 ≤ r1 then
      k2 x1 x2 (x3 + (1 : Int32))
    else
      some ((0 : Int32))
  else
    if ((x2 >>> (x6 &&& 31)) &&& (1 : Int32)) = 0 then
      k11 x1 x2 x3 x4 x5 (x6 + (1 : Int32))
    else
      sd_lt ((x6 * (4 : Int32)) + x3) fun a2 =>
      sd_gu (sm_in a2 20 = true) <|
      sd_lt (x4 ||| ((I (p0 + 11) (Int32.toNatClampNeg a2)) &&& x1)) fun a4 =>
      sd_gu (sm_in a2 20 = true) <|
      sd_lt (x5 + (I (p0 + 6) (Int32.toNatClampNeg a2))) fun a6 =>
      k11 x1 x2 x3 a4 a6 (x6 + (1 : Int32))
noncomputable def F_Choir_enoughFor_11 (p0 : Nat) (k2 : Int32 → Int32 → Int32 → Option (Int32)) (I : sm_MI) (n : Nat) : Int32 → Int32 → Int32 → Int32 → Int32 → Int32 → Option (Int32) :=
  sd_fix (fun k x1 x2 x3 x4 x5 x6 => F_Choir_enoughFor_11B p0 k2 k x1 x2 x3 x4 x5 x6 I) (fun _ _ _ _ _ _ => none) n
noncomputable def F_Choir_enoughFor_2B (p0 : Nat) (k2 : Int32 → Int32 → Int32 → Option (Int32)) (x1 : Int32) (x2 : Int32) (x3 : Int32) (I : sm_MI) : Option (Int32) :=
  if (4 : Int32) ≤ x3 then
    some ((1 : Int32))
  else
    F_Choir_enoughFor_11 p0 k2 I sd_fu x1 x2 x3 (0 : Int32) (0 : Int32) (0 : Int32)
noncomputable def F_Choir_enoughFor_2 (p0 : Nat) (I : sm_MI) (n : Nat) : Int32 → Int32 → Int32 → Option (Int32) :=
  sd_fix (fun k x1 x2 x3 => F_Choir_enoughFor_2B p0 k x1 x2 x3 I) (fun _ _ _ => none) n
noncomputable def F_Choir_enoughFor (p0 : Nat) (x1 : Int32) (x2 : Int32) (I : sm_MI) : Option (Int32) :=
  F_Choir_enoughFor_2 p0 I sd_fu x1 x2 (0 : Int32)
theorem G_Choir_enoughFor_11B {X : Nat × (Nat → Int32)} {t d D : Nat} {Q : sm_Q} {I : sm_MI} {J : sm_MJ} {p0 : Nat} {k2 : Int32 → Int32 → Int32 → Option (Int32)} {k11 : Int32 → Int32 → Int32 → Int32 → Int32 → Int32 → Option (Int32)} {x1 : Int32} {x2 : Int32} {x3 : Int32} {x4 : Int32} {x5 : Int32} {x6 : Int32} {rz : Int32}
    (hD : 1 ≤ D) (hp : (p0 = 21) ∨ (p0 = 41)) (h : F_Choir_enoughFor_11B p0 k2 k11 x1 x2 x3 x4 x5 x6 I = some (rz)) (hQ : Q (.inl (some (.int rz))) (I, J, sm_rf t d)) (hk2 : ∀ (x1 : Int32) (x2 : Int32) (x3 : Int32), k2 x1 x2 x3 = some (rz) → sm_W sm_sh X (sm_C sm_sh X sm_P D) me_9 Q (2, [some (.ref p0), some (.int x1), some (.int x2), some (.int x3), none, none, none, none], [], 0, 0) (I, J, sm_rf t d)) (hk11 : ∀ (x1 : Int32) (x2 : Int32) (x3 : Int32) (x4 : Int32) (x5 : Int32) (x6 : Int32), k11 x1 x2 x3 x4 x5 x6 = some (rz) → sm_W sm_sh X (sm_C sm_sh X sm_P D) me_9 Q (11, [some (.ref p0), some (.int x1), some (.int x2), some (.int x3), some (.int x4), some (.int x5), some (.int x6), none], [], 0, 0) (I, J, sm_rf t d)) : sm_W sm_sh X (sm_C sm_sh X sm_P D) me_9 Q (11, [some (.ref p0), some (.int x1), some (.int x2), some (.int x3), some (.int x4), some (.int x5), some (.int x6), none], [], 0, 0) (I, J, sm_rf t d) := by
  unfold F_Choir_enoughFor_11B at h
  rcases hp with rfl | rfl
  · skip
    refine sm_W.run (sm_C_mono D) 3 (G := True) (fr' := (if decide ((5 : Int32) ≤ x6) = true then 44 else 14, [some (.ref 21), some (.int x1), some (.int x2), some (.int x3), some (.int x4), some (.int x5), some (.int x6), none], [], 0, 0)) (M' := (I, J, sm_rf t d)) rfl trivial (sm_W.iteD h (fun hc h => ?_) (fun hc h => ?_))
    · refine sm_W.run (sm_C_mono D) 1 (G := True) (fr' := (45, [some (.ref 21), some (.int x1), some (.int x2), some (.int x3), some (.int x4), some (.int x5), some (.int x6), none], [.int x4], 0, 0)) (M' := (I, J, sm_rf t d)) rfl trivial ?_
      obtain ⟨r1, hc, h⟩ := sd_q1_go h
      refine sm_W.cal (sm_C_mono D) (y := 268) (as := [.int x4]) (fr' := (46, [some (.ref 21), some (.int x1), some (.int x2), some (.int x3), some (.int x4), some (.int x5), some (.int x6), none], [], 0, 0)) rfl (T_Int_bitCount (by omega) hc ?_)
      show sm_W sm_sh X (sm_C sm_sh X sm_P D) me_9 Q (46, [some (.ref 21), some (.int x1), some (.int x2), some (.int x3), some (.int x4), some (.int x5), some (.int x6), none], [.int r1], 0, 0) (I, J, sm_rf t d)
      refine sm_W.run (sm_C_mono D) 2 (G := True) (fr' := (if decide (x5 ≤ r1) = true then 50 else 48, [some (.ref 21), some (.int x1), some (.int x2), some (.int x3), some (.int x4), some (.int x5), some (.int x6), none], [], 0, 0)) (M' := (I, J, sm_rf t d)) rfl trivial (sm_W.iteD h (fun hc h => ?_) (fun hc h => ?_))
      · refine sm_W.run (sm_C_mono D) 2 (G := True) (fr' := (2, [some (.ref 21), some (.int x1), some (.int x2), some (.int (x3 + (1 : Int32))), some (.int x4), some (.int x5), some (.int x6), none], [], 0, 0)) (M' := (I, J, sm_rf t d)) rfl trivial ?_
        exact sm_W.forget (L' := [some (.ref 21), some (.int x1), some (.int x2), some (.int (x3 + (1 : Int32))), none, none, none, none]) ⟨rfl, ⟨rfl, ⟨rfl, ⟨rfl, trivial⟩⟩⟩⟩ (hk2 _ _ _ h)
      · refine sm_W.run (sm_C_mono D) 1 (G := True) (fr' := (49, [some (.ref 21), some (.int x1), some (.int x2), some (.int x3), some (.int x4), some (.int x5), some (.int x6), none], [.int (0 : Int32)], 0, 0)) (M' := (I, J, sm_rf t d)) rfl trivial ?_
        cases h
        exact sm_W.ret (sm_C_mono D) rfl hQ
    · refine sm_W.run (sm_C_mono D) 6 (G := True) (fr' := (if decide (((x2 >>> (x6 &&& 31)) &&& (1 : Int32)) = 0) = true then 42 else 20, [some (.ref 21), some (.int x1), some (.int x2), some (.int x3), some (.int x4), some (.int x5), some (.int x6), none], [], 0, 0)) (M' := (I, J, sm_rf t d)) rfl trivial (sm_W.iteD h (fun hc h => ?_) (fun hc h => ?_))
      · refine sm_W.run (sm_C_mono D) 2 (G := True) (fr' := (11, [some (.ref 21), some (.int x1), some (.int x2), some (.int x3), some (.int x4), some (.int x5), some (.int (x6 + (1 : Int32))), none], [], 0, 0)) (M' := (I, J, sm_rf t d)) rfl trivial ?_
        exact (hk11 _ _ _ _ _ _ h)
      · refine sm_W.runL (sm_C_mono D) 6 (G := True) (e := ((x6 * (4 : Int32)) + x3)) (fr' := fun a2 => (26, [some (.ref 21), some (.int x1), some (.int x2), some (.int x3), some (.int x4), some (.int x5), some (.int x6), some (.int a2)], [], 0, 0)) (M' := fun _ => (I, J, sm_rf t d)) rfl h trivial (fun a2 h => ?_)
        obtain ⟨g3, h⟩ := sd_gu_go h
        refine sm_W.runL (sm_C_mono D) 9 (G := sm_in a2 20 = true ∧ True) (e := (x4 ||| ((I (21 + 11) (Int32.toNatClampNeg a2)) &&& x1))) (fr' := fun a4 => (35, [some (.ref 21), some (.int x1), some (.int x2), some (.int x3), some (.int a4), some (.int x5), some (.int x6), some (.int a2)], [], 0, 0)) (M' := fun _ => (I, J, sm_rf t d)) rfl h ⟨g3, trivial⟩ (fun a4 h => ?_)
        obtain ⟨g5, h⟩ := sd_gu_go h
        refine sm_W.runL (sm_C_mono D) 7 (G := sm_in a2 20 = true ∧ True) (e := (x5 + (I (21 + 6) (Int32.toNatClampNeg a2)))) (fr' := fun a6 => (42, [some (.ref 21), some (.int x1), some (.int x2), some (.int x3), some (.int a4), some (.int a6), some (.int x6), some (.int a2)], [], 0, 0)) (M' := fun _ => (I, J, sm_rf t d)) rfl h ⟨g5, trivial⟩ (fun a6 h => ?_)
        refine sm_W.run (sm_C_mono D) 2 (G := True) (fr' := (11, [some (.ref 21), some (.int x1), some (.int x2), some (.int x3), some (.int a4), some (.int a6), some (.int (x6 + (1 : Int32))), some (.int a2)], [], 0, 0)) (M' := (I, J, sm_rf t d)) rfl trivial ?_
        exact sm_W.forget (L' := [some (.ref 21), some (.int x1), some (.int x2), some (.int x3), some (.int a4), some (.int a6), some (.int (x6 + (1 : Int32))), none]) ⟨rfl, ⟨rfl, ⟨rfl, ⟨rfl, ⟨rfl, ⟨rfl, ⟨rfl, trivial⟩⟩⟩⟩⟩⟩⟩ (hk11 _ _ _ _ _ _ h)
  · skip
    refine sm_W.run (sm_C_mono D) 3 (G := True) (fr' := (if decide ((5 : Int32) ≤ x6) = true then 44 else 14, [some (.ref 41), some (.int x1), some (.int x2), some (.int x3), some (.int x4), some (.int x5), some (.int x6), none], [], 0, 0)) (M' := (I, J, sm_rf t d)) rfl trivial (sm_W.iteD h (fun hc h => ?_) (fun hc h => ?_))
    · refine sm_W.run (sm_C_mono D) 1 (G := True) (fr' := (45, [some (.ref 41), some (.int x1), some (.int x2), some (.int x3), some (.int x4), some (.int x5), some (.int x6), none], [.int x4], 0, 0)) (M' := (I, J, sm_rf t d)) rfl trivial ?_
      obtain ⟨r1, hc, h⟩ := sd_q1_go h
      refine sm_W.cal (sm_C_mono D) (y := 268) (as := [.int x4]) (fr' := (46, [some (.ref 41), some (.int x1), some (.int x2), some (.int x3), some (.int x4), some (.int x5), some (.int x6), none], [], 0, 0)) rfl (T_Int_bitCount (by omega) hc ?_)
      show sm_W sm_sh X (sm_C sm_sh X sm_P D) me_9 Q (46, [some (.ref 41), some (.int x1), some (.int x2), some (.int x3), some (.int x4), some (.int x5), some (.int x6), none], [.int r1], 0, 0) (I, J, sm_rf t d)
      refine sm_W.run (sm_C_mono D) 2 (G := True) (fr' := (if decide (x5 ≤ r1) = true then 50 else 48, [some (.ref 41), some (.int x1), some (.int x2), some (.int x3), some (.int x4), some (.int x5), some (.int x6), none], [], 0, 0)) (M' := (I, J, sm_rf t d)) rfl trivial (sm_W.iteD h (fun hc h => ?_) (fun hc h => ?_))
      · refine sm_W.run (sm_C_mono D) 2 (G := True) (fr' := (2, [some (.ref 41), some (.int x1), some (.int x2), some (.int (x3 + (1 : Int32))), some (.int x4), some (.int x5), some (.int x6), none], [], 0, 0)) (M' := (I, J, sm_rf t d)) rfl trivial ?_
        exact sm_W.forget (L' := [some (.ref 41), some (.int x1), some (.int x2), some (.int (x3 + (1 : Int32))), none, none, none, none]) ⟨rfl, ⟨rfl, ⟨rfl, ⟨rfl, trivial⟩⟩⟩⟩ (hk2 _ _ _ h)
      · refine sm_W.run (sm_C_mono D) 1 (G := True) (fr' := (49, [some (.ref 41), some (.int x1), some (.int x2), some (.int x3), some (.int x4), some (.int x5), some (.int x6), none], [.int (0 : Int32)], 0, 0)) (M' := (I, J, sm_rf t d)) rfl trivial ?_
        cases h
        exact sm_W.ret (sm_C_mono D) rfl hQ
    · refine sm_W.run (sm_C_mono D) 6 (G := True) (fr' := (if decide (((x2 >>> (x6 &&& 31)) &&& (1 : Int32)) = 0) = true then 42 else 20, [some (.ref 41), some (.int x1), some (.int x2), some (.int x3), some (.int x4), some (.int x5), some (.int x6), none], [], 0, 0)) (M' := (I, J, sm_rf t d)) rfl trivial (sm_W.iteD h (fun hc h => ?_) (fun hc h => ?_))
      · refine sm_W.run (sm_C_mono D) 2 (G := True) (fr' := (11, [some (.ref 41), some (.int x1), some (.int x2), some (.int x3), some (.int x4), some (.int x5), some (.int (x6 + (1 : Int32))), none], [], 0, 0)) (M' := (I, J, sm_rf t d)) rfl trivial ?_
        exact (hk11 _ _ _ _ _ _ h)
      · refine sm_W.runL (sm_C_mono D) 6 (G := True) (e := ((x6 * (4 : Int32)) + x3)) (fr' := fun a2 => (26, [some (.ref 41), some (.int x1), some (.int x2), some (.int x3), some (.int x4), some (.int x5), some (.int x6), some (.int a2)], [], 0, 0)) (M' := fun _ => (I, J, sm_rf t d)) rfl h trivial (fun a2 h => ?_)
        obtain ⟨g3, h⟩ := sd_gu_go h
        refine sm_W.runL (sm_C_mono D) 9 (G := sm_in a2 20 = true ∧ True) (e := (x4 ||| ((I (41 + 11) (Int32.toNatClampNeg a2)) &&& x1))) (fr' := fun a4 => (35, [some (.ref 41), some (.int x1), some (.int x2), some (.int x3), some (.int a4), some (.int x5), some (.int x6), some (.int a2)], [], 0, 0)) (M' := fun _ => (I, J, sm_rf t d)) rfl h ⟨g3, trivial⟩ (fun a4 h => ?_)
        obtain ⟨g5, h⟩ := sd_gu_go h
        refine sm_W.runL (sm_C_mono D) 7 (G := sm_in a2 20 = true ∧ True) (e := (x5 + (I (41 + 6) (Int32.toNatClampNeg a2)))) (fr' := fun a6 => (42, [some (.ref 41), some (.int x1), some (.int x2), some (.int x3), some (.int a4), some (.int a6), some (.int x6), some (.int a2)], [], 0, 0)) (M' := fun _ => (I, J, sm_rf t d)) rfl h ⟨g5, trivial⟩ (fun a6 h => ?_)
        refine sm_W.run (sm_C_mono D) 2 (G := True) (fr' := (11, [some (.ref 41), some (.int x1), some (.int x2), some (.int x3), some (.int a4), some (.int a6), some (.int (x6 + (1 : Int32))), some (.int a2)], [], 0, 0)) (M' := (I, J, sm_rf t d)) rfl trivial ?_
        exact sm_W.forget (L' := [some (.ref 41), some (.int x1), some (.int x2), some (.int x3), some (.int a4), some (.int a6), some (.int (x6 + (1 : Int32))), none]) ⟨rfl, ⟨rfl, ⟨rfl, ⟨rfl, ⟨rfl, ⟨rfl, ⟨rfl, trivial⟩⟩⟩⟩⟩⟩⟩ (hk11 _ _ _ _ _ _ h)
theorem G_Choir_enoughFor_11 {X : Nat × (Nat → Int32)} {t d D : Nat} {Q : sm_Q} {I : sm_MI} {J : sm_MJ} {p0 : Nat} {k2 : Int32 → Int32 → Int32 → Option (Int32)} {rz : Int32}
    (hD : 1 ≤ D) (hp : (p0 = 21) ∨ (p0 = 41)) (hQ : Q (.inl (some (.int rz))) (I, J, sm_rf t d)) (hk2 : ∀ (x1 : Int32) (x2 : Int32) (x3 : Int32), k2 x1 x2 x3 = some (rz) → sm_W sm_sh X (sm_C sm_sh X sm_P D) me_9 Q (2, [some (.ref p0), some (.int x1), some (.int x2), some (.int x3), none, none, none, none], [], 0, 0) (I, J, sm_rf t d)) : ∀ (n : Nat) (x1 : Int32) (x2 : Int32) (x3 : Int32) (x4 : Int32) (x5 : Int32) (x6 : Int32), F_Choir_enoughFor_11 p0 k2 I n x1 x2 x3 x4 x5 x6 = some (rz) → sm_W sm_sh X (sm_C sm_sh X sm_P D) me_9 Q (11, [some (.ref p0), some (.int x1), some (.int x2), some (.int x3), some (.int x4), some (.int x5), some (.int x6), none], [], 0, 0) (I, J, sm_rf t d) := by
  intro n
  induction n with
  | zero => intro x1 x2 x3 x4 x5 x6 h; cases (show (none : Option (Int32)) = some (rz) from h)
  | succ n ih => intro x1 x2 x3 x4 x5 x6 h; exact G_Choir_enoughFor_11B hD hp (show F_Choir_enoughFor_11B p0 k2 (F_Choir_enoughFor_11 p0 k2 I n) x1 x2 x3 x4 x5 x6 I = some (rz) from h) hQ hk2 ih
theorem G_Choir_enoughFor_2B {X : Nat × (Nat → Int32)} {t d D : Nat} {Q : sm_Q} {I : sm_MI} {J : sm_MJ} {p0 : Nat} {k2 : Int32 → Int32 → Int32 → Option (Int32)} {x1 : Int32} {x2 : Int32} {x3 : Int32} {rz : Int32}
    (hD : 1 ≤ D) (hp : (p0 = 21) ∨ (p0 = 41)) (h : F_Choir_enoughFor_2B p0 k2 x1 x2 x3 I = some (rz)) (hQ : Q (.inl (some (.int rz))) (I, J, sm_rf t d)) (hk2 : ∀ (x1 : Int32) (x2 : Int32) (x3 : Int32), k2 x1 x2 x3 = some (rz) → sm_W sm_sh X (sm_C sm_sh X sm_P D) me_9 Q (2, [some (.ref p0), some (.int x1), some (.int x2), some (.int x3), none, none, none, none], [], 0, 0) (I, J, sm_rf t d)) : sm_W sm_sh X (sm_C sm_sh X sm_P D) me_9 Q (2, [some (.ref p0), some (.int x1), some (.int x2), some (.int x3), none, none, none, none], [], 0, 0) (I, J, sm_rf t d) := by
  unfold F_Choir_enoughFor_2B at h
  rcases hp with rfl | rfl
  · skip
    refine sm_W.run (sm_C_mono D) 3 (G := True) (fr' := (if decide ((4 : Int32) ≤ x3) = true then 52 else 5, [some (.ref 21), some (.int x1), some (.int x2), some (.int x3), none, none, none, none], [], 0, 0)) (M' := (I, J, sm_rf t d)) rfl trivial (sm_W.iteD h (fun hc h => ?_) (fun hc h => ?_))
    · refine sm_W.run (sm_C_mono D) 1 (G := True) (fr' := (53, [some (.ref 21), some (.int x1), some (.int x2), some (.int x3), none, none, none, none], [.int (1 : Int32)], 0, 0)) (M' := (I, J, sm_rf t d)) rfl trivial ?_
      cases h
      exact sm_W.ret (sm_C_mono D) rfl hQ
    · refine sm_W.run (sm_C_mono D) 6 (G := True) (fr' := (11, [some (.ref 21), some (.int x1), some (.int x2), some (.int x3), some (.int (0 : Int32)), some (.int (0 : Int32)), some (.int (0 : Int32)), none], [], 0, 0)) (M' := (I, J, sm_rf t d)) rfl trivial ?_
      exact (G_Choir_enoughFor_11 hD (by decide) hQ hk2 sd_fu _ _ _ _ _ _ h)
  · skip
    refine sm_W.run (sm_C_mono D) 3 (G := True) (fr' := (if decide ((4 : Int32) ≤ x3) = true then 52 else 5, [some (.ref 41), some (.int x1), some (.int x2), some (.int x3), none, none, none, none], [], 0, 0)) (M' := (I, J, sm_rf t d)) rfl trivial (sm_W.iteD h (fun hc h => ?_) (fun hc h => ?_))
    · refine sm_W.run (sm_C_mono D) 1 (G := True) (fr' := (53, [some (.ref 41), some (.int x1), some (.int x2), some (.int x3), none, none, none, none], [.int (1 : Int32)], 0, 0)) (M' := (I, J, sm_rf t d)) rfl trivial ?_
      cases h
      exact sm_W.ret (sm_C_mono D) rfl hQ
    · refine sm_W.run (sm_C_mono D) 6 (G := True) (fr' := (11, [some (.ref 41), some (.int x1), some (.int x2), some (.int x3), some (.int (0 : Int32)), some (.int (0 : Int32)), some (.int (0 : Int32)), none], [], 0, 0)) (M' := (I, J, sm_rf t d)) rfl trivial ?_
      exact (G_Choir_enoughFor_11 hD (by decide) hQ hk2 sd_fu _ _ _ _ _ _ h)
theorem G_Choir_enoughFor_2 {X : Nat × (Nat → Int32)} {t d D : Nat} {Q : sm_Q} {I : sm_MI} {J : sm_MJ} {p0 : Nat} {rz : Int32}
    (hD : 1 ≤ D) (hp : (p0 = 21) ∨ (p0 = 41)) (hQ : Q (.inl (some (.int rz))) (I, J, sm_rf t d))  : ∀ (n : Nat) (x1 : Int32) (x2 : Int32) (x3 : Int32), F_Choir_enoughFor_2 p0 I n x1 x2 x3 = some (rz) → sm_W sm_sh X (sm_C sm_sh X sm_P D) me_9 Q (2, [some (.ref p0), some (.int x1), some (.int x2), some (.int x3), none, none, none, none], [], 0, 0) (I, J, sm_rf t d) := by
  intro n
  induction n with
  | zero => intro x1 x2 x3 h; cases (show (none : Option (Int32)) = some (rz) from h)
  | succ n ih => intro x1 x2 x3 h; exact G_Choir_enoughFor_2B hD hp (show F_Choir_enoughFor_2B p0 (F_Choir_enoughFor_2 p0 I n) x1 x2 x3 I = some (rz) from h) hQ  ih
theorem G_Choir_enoughFor {X : Nat × (Nat → Int32)} {t d D : Nat} {Q : sm_Q} {I : sm_MI} {J : sm_MJ} {p0 : Nat} {x1 : Int32} {x2 : Int32} {rz : Int32}
    (hD : 1 ≤ D) (hp : (p0 = 21) ∨ (p0 = 41)) (h : F_Choir_enoughFor p0 x1 x2 I = some (rz)) (hQ : Q (.inl (some (.int rz))) (I, J, sm_rf t d))  : sm_W sm_sh X (sm_C sm_sh X sm_P D) me_9 Q (0, [some (.ref p0), some (.int x1), some (.int x2), none, none, none, none, none], [], 0, 0) (I, J, sm_rf t d) := by
  unfold F_Choir_enoughFor at h
  rcases hp with rfl | rfl
  · skip
    refine sm_W.run (sm_C_mono D) 2 (G := True) (fr' := (2, [some (.ref 21), some (.int x1), some (.int x2), some (.int (0 : Int32)), none, none, none, none], [], 0, 0)) (M' := (I, J, sm_rf t d)) rfl trivial ?_
    exact (G_Choir_enoughFor_2 hD (by decide) hQ sd_fu _ _ _ h)
  · skip
    refine sm_W.run (sm_C_mono D) 2 (G := True) (fr' := (2, [some (.ref 41), some (.int x1), some (.int x2), some (.int (0 : Int32)), none, none, none, none], [], 0, 0)) (M' := (I, J, sm_rf t d)) rfl trivial ?_
    exact (G_Choir_enoughFor_2 hD (by decide) hQ sd_fu _ _ _ h)
theorem T_Choir_enoughFor {X : Nat × (Nat → Int32)} {t d D : Nat} {Q : sm_Q} {I : sm_MI} {J : sm_MJ} {p0 : Nat} {x1 : Int32} {x2 : Int32} {rz : Int32}
    (hD : 2 ≤ D) (hp : (p0 = 21) ∨ (p0 = 41)) (h : F_Choir_enoughFor p0 x1 x2 I = some (rz)) (hQ : Q (.inl (some (.int rz))) (I, J, sm_rf t d)) : sm_C sm_sh X sm_P D 9 [.ref p0, .int x1, .int x2] (I, J, sm_rf t d) Q := by
  cases D with
  | zero => omega
  | succ D => exact sm_C.of (me := me_9) (L := [some (.ref p0), some (.int x1), some (.int x2), none, none, none, none, none]) rfl rfl rfl (sm_W.forget (L' := [some (.ref p0), some (.int x1), some (.int x2), none, none, none, none, none]) ⟨rfl, ⟨rfl, ⟨rfl, trivial⟩⟩⟩ (G_Choir_enoughFor (by omega) hp h hQ))
-- 8 Choir_together
noncomputable def F_Choir_together_11B (p0 : Nat) (k11 : Int32 → Int32 → Int32 → Option (Int32)) (x1 : Int32) (x2 : Int32) (x3 : Int32) (I : sm_MI) : Option (Int32) :=
  if (32 : Int32) ≤ x3 then
    some ((1 : Int32))
  else
    if ¬ (x3 &&& x2) = x3 then
      k11 x1 x2 (x3 + (1 : Int32))
    else
      sd_q1 (F_Choir_enoughFor p0 x1 x3 I) fun r1 =>
      if ¬ r1 = 0 then
        k11 x1 x2 (x3 + (1 : Int32))
      else
        some ((0 : Int32))
noncomputable def F_Choir_together_11 (p0 : Nat) (I : sm_MI) (n : Nat) : Int32 → Int32 → Int32 → Option (Int32) :=
  sd_fix (fun k x1 x2 x3 => F_Choir_together_11B p0 k x1 x2 x3 I) (fun _ _ _ => none) n
noncomputable def F_Choir_together (p0 : Nat) (x1 : Int32) (x2 : Int32) (I : sm_MI) : Option (Int32) :=
  sd_q1 (F_Valley_singable p0 x1 I) fun r1 =>
  if (r1 &&& x2) = x2 then
    F_Choir_together_11 p0 I sd_fu x1 x2 (1 : Int32)
  else
    some ((0 : Int32))
theorem G_Choir_together_11B {X : Nat × (Nat → Int32)} {t d D : Nat} {Q : sm_Q} {I : sm_MI} {J : sm_MJ} {p0 : Nat} {k11 : Int32 → Int32 → Int32 → Option (Int32)} {x1 : Int32} {x2 : Int32} {x3 : Int32} {rz : Int32}
    (hD : 3 ≤ D) (hp : (p0 = 21) ∨ (p0 = 41)) (h : F_Choir_together_11B p0 k11 x1 x2 x3 I = some (rz)) (hQ : Q (.inl (some (.int rz))) (I, J, sm_rf t d)) (hk11 : ∀ (x1 : Int32) (x2 : Int32) (x3 : Int32), k11 x1 x2 x3 = some (rz) → sm_W sm_sh X (sm_C sm_sh X sm_P D) me_8 Q (11, [some (.ref p0), some (.int x1), some (.int x2), some (.int x3)], [], 0, 0) (I, J, sm_rf t d)) : sm_W sm_sh X (sm_C sm_sh X sm_P D) me_8 Q (11, [some (.ref p0), some (.int x1), some (.int x2), some (.int x3)], [], 0, 0) (I, J, sm_rf t d) := by
  unfold F_Choir_together_11B at h
  rcases hp with rfl | rfl
  · skip
    refine sm_W.run (sm_C_mono D) 3 (G := True) (fr' := (if decide ((32 : Int32) ≤ x3) = true then 28 else 14, [some (.ref 21), some (.int x1), some (.int x2), some (.int x3)], [], 0, 0)) (M' := (I, J, sm_rf t d)) rfl trivial (sm_W.iteD h (fun hc h => ?_) (fun hc h => ?_))
    · refine sm_W.run (sm_C_mono D) 1 (G := True) (fr' := (29, [some (.ref 21), some (.int x1), some (.int x2), some (.int x3)], [.int (1 : Int32)], 0, 0)) (M' := (I, J, sm_rf t d)) rfl trivial ?_
      cases h
      exact sm_W.ret (sm_C_mono D) rfl hQ
    · refine sm_W.run (sm_C_mono D) 5 (G := True) (fr' := (if decide (¬ (x3 &&& x2) = x3) = true then 26 else 19, [some (.ref 21), some (.int x1), some (.int x2), some (.int x3)], [], 0, 0)) (M' := (I, J, sm_rf t d)) rfl trivial (sm_W.iteD h (fun hc h => ?_) (fun hc h => ?_))
      · refine sm_W.run (sm_C_mono D) 2 (G := True) (fr' := (11, [some (.ref 21), some (.int x1), some (.int x2), some (.int (x3 + (1 : Int32)))], [], 0, 0)) (M' := (I, J, sm_rf t d)) rfl trivial ?_
        exact (hk11 _ _ _ h)
      · refine sm_W.run (sm_C_mono D) 3 (G := True) (fr' := (22, [some (.ref 21), some (.int x1), some (.int x2), some (.int x3)], [.int x3, .int x1, .ref 21], 0, 0)) (M' := (I, J, sm_rf t d)) rfl trivial ?_
        obtain ⟨r1, hc, h⟩ := sd_q1_go h
        refine sm_W.cal (sm_C_mono D) (y := 9) (as := [.ref 21, .int x1, .int x3]) (fr' := (23, [some (.ref 21), some (.int x1), some (.int x2), some (.int x3)], [], 0, 0)) rfl (T_Choir_enoughFor (by omega) (by decide) hc ?_)
        show sm_W sm_sh X (sm_C sm_sh X sm_P D) me_8 Q (23, [some (.ref 21), some (.int x1), some (.int x2), some (.int x3)], [.int r1], 0, 0) (I, J, sm_rf t d)
        refine sm_W.run (sm_C_mono D) 1 (G := True) (fr' := (if decide (¬ r1 = 0) = true then 26 else 24, [some (.ref 21), some (.int x1), some (.int x2), some (.int x3)], [], 0, 0)) (M' := (I, J, sm_rf t d)) rfl trivial (sm_W.iteD h (fun hc h => ?_) (fun hc h => ?_))
        · refine sm_W.run (sm_C_mono D) 2 (G := True) (fr' := (11, [some (.ref 21), some (.int x1), some (.int x2), some (.int (x3 + (1 : Int32)))], [], 0, 0)) (M' := (I, J, sm_rf t d)) rfl trivial ?_
          exact (hk11 _ _ _ h)
        · refine sm_W.run (sm_C_mono D) 1 (G := True) (fr' := (25, [some (.ref 21), some (.int x1), some (.int x2), some (.int x3)], [.int (0 : Int32)], 0, 0)) (M' := (I, J, sm_rf t d)) rfl trivial ?_
          cases h
          exact sm_W.ret (sm_C_mono D) rfl hQ
  · skip
    refine sm_W.run (sm_C_mono D) 3 (G := True) (fr' := (if decide ((32 : Int32) ≤ x3) = true then 28 else 14, [some (.ref 41), some (.int x1), some (.int x2), some (.int x3)], [], 0, 0)) (M' := (I, J, sm_rf t d)) rfl trivial (sm_W.iteD h (fun hc h => ?_) (fun hc h => ?_))
    · refine sm_W.run (sm_C_mono D) 1 (G := True) (fr' := (29, [some (.ref 41), some (.int x1), some (.int x2), some (.int x3)], [.int (1 : Int32)], 0, 0)) (M' := (I, J, sm_rf t d)) rfl trivial ?_
      cases h
      exact sm_W.ret (sm_C_mono D) rfl hQ
    · refine sm_W.run (sm_C_mono D) 5 (G := True) (fr' := (if decide (¬ (x3 &&& x2) = x3) = true then 26 else 19, [some (.ref 41), some (.int x1), some (.int x2), some (.int x3)], [], 0, 0)) (M' := (I, J, sm_rf t d)) rfl trivial (sm_W.iteD h (fun hc h => ?_) (fun hc h => ?_))
      · refine sm_W.run (sm_C_mono D) 2 (G := True) (fr' := (11, [some (.ref 41), some (.int x1), some (.int x2), some (.int (x3 + (1 : Int32)))], [], 0, 0)) (M' := (I, J, sm_rf t d)) rfl trivial ?_
        exact (hk11 _ _ _ h)
      · refine sm_W.run (sm_C_mono D) 3 (G := True) (fr' := (22, [some (.ref 41), some (.int x1), some (.int x2), some (.int x3)], [.int x3, .int x1, .ref 41], 0, 0)) (M' := (I, J, sm_rf t d)) rfl trivial ?_
        obtain ⟨r1, hc, h⟩ := sd_q1_go h
        refine sm_W.cal (sm_C_mono D) (y := 9) (as := [.ref 41, .int x1, .int x3]) (fr' := (23, [some (.ref 41), some (.int x1), some (.int x2), some (.int x3)], [], 0, 0)) rfl (T_Choir_enoughFor (by omega) (by decide) hc ?_)
        show sm_W sm_sh X (sm_C sm_sh X sm_P D) me_8 Q (23, [some (.ref 41), some (.int x1), some (.int x2), some (.int x3)], [.int r1], 0, 0) (I, J, sm_rf t d)
        refine sm_W.run (sm_C_mono D) 1 (G := True) (fr' := (if decide (¬ r1 = 0) = true then 26 else 24, [some (.ref 41), some (.int x1), some (.int x2), some (.int x3)], [], 0, 0)) (M' := (I, J, sm_rf t d)) rfl trivial (sm_W.iteD h (fun hc h => ?_) (fun hc h => ?_))
        · refine sm_W.run (sm_C_mono D) 2 (G := True) (fr' := (11, [some (.ref 41), some (.int x1), some (.int x2), some (.int (x3 + (1 : Int32)))], [], 0, 0)) (M' := (I, J, sm_rf t d)) rfl trivial ?_
          exact (hk11 _ _ _ h)
        · refine sm_W.run (sm_C_mono D) 1 (G := True) (fr' := (25, [some (.ref 41), some (.int x1), some (.int x2), some (.int x3)], [.int (0 : Int32)], 0, 0)) (M' := (I, J, sm_rf t d)) rfl trivial ?_
          cases h
          exact sm_W.ret (sm_C_mono D) rfl hQ
theorem G_Choir_together_11 {X : Nat × (Nat → Int32)} {t d D : Nat} {Q : sm_Q} {I : sm_MI} {J : sm_MJ} {p0 : Nat} {rz : Int32}
    (hD : 3 ≤ D) (hp : (p0 = 21) ∨ (p0 = 41)) (hQ : Q (.inl (some (.int rz))) (I, J, sm_rf t d))  : ∀ (n : Nat) (x1 : Int32) (x2 : Int32) (x3 : Int32), F_Choir_together_11 p0 I n x1 x2 x3 = some (rz) → sm_W sm_sh X (sm_C sm_sh X sm_P D) me_8 Q (11, [some (.ref p0), some (.int x1), some (.int x2), some (.int x3)], [], 0, 0) (I, J, sm_rf t d) := by
  intro n
  induction n with
  | zero => intro x1 x2 x3 h; cases (show (none : Option (Int32)) = some (rz) from h)
  | succ n ih => intro x1 x2 x3 h; exact G_Choir_together_11B hD hp (show F_Choir_together_11B p0 (F_Choir_together_11 p0 I n) x1 x2 x3 I = some (rz) from h) hQ  ih
theorem G_Choir_together {X : Nat × (Nat → Int32)} {t d D : Nat} {Q : sm_Q} {I : sm_MI} {J : sm_MJ} {p0 : Nat} {x1 : Int32} {x2 : Int32} {rz : Int32}
    (hD : 3 ≤ D) (hp : (p0 = 21) ∨ (p0 = 41)) (h : F_Choir_together p0 x1 x2 I = some (rz)) (hQ : Q (.inl (some (.int rz))) (I, J, sm_rf t d))  : sm_W sm_sh X (sm_C sm_sh X sm_P D) me_8 Q (0, [some (.ref p0), some (.int x1), some (.int x2), none], [], 0, 0) (I, J, sm_rf t d) := by
  unfold F_Choir_together at h
  rcases hp with rfl | rfl
  · skip
    refine sm_W.run (sm_C_mono D) 2 (G := True) (fr' := (2, [some (.ref 21), some (.int x1), some (.int x2), none], [.int x1, .ref 21], 0, 0)) (M' := (I, J, sm_rf t d)) rfl trivial ?_
    obtain ⟨r1, hc, h⟩ := sd_q1_go h
    refine sm_W.cal (sm_C_mono D) (y := 89) (as := [.ref 21, .int x1]) (fr' := (3, [some (.ref 21), some (.int x1), some (.int x2), none], [], 0, 0)) rfl (T_Valley_singable (by omega) (by decide) hc ?_)
    show sm_W sm_sh X (sm_C sm_sh X sm_P D) me_8 Q (3, [some (.ref 21), some (.int x1), some (.int x2), none], [.int r1], 0, 0) (I, J, sm_rf t d)
    refine sm_W.run (sm_C_mono D) 4 (G := True) (fr' := (if decide ((r1 &&& x2) = x2) = true then 9 else 7, [some (.ref 21), some (.int x1), some (.int x2), none], [], 0, 0)) (M' := (I, J, sm_rf t d)) rfl trivial (sm_W.iteD h (fun hc h => ?_) (fun hc h => ?_))
    · refine sm_W.run (sm_C_mono D) 2 (G := True) (fr' := (11, [some (.ref 21), some (.int x1), some (.int x2), some (.int (1 : Int32))], [], 0, 0)) (M' := (I, J, sm_rf t d)) rfl trivial ?_
      exact (G_Choir_together_11 hD (by decide) hQ sd_fu _ _ _ h)
    · refine sm_W.run (sm_C_mono D) 1 (G := True) (fr' := (8, [some (.ref 21), some (.int x1), some (.int x2), none], [.int (0 : Int32)], 0, 0)) (M' := (I, J, sm_rf t d)) rfl trivial ?_
      cases h
      exact sm_W.ret (sm_C_mono D) rfl hQ
  · skip
    refine sm_W.run (sm_C_mono D) 2 (G := True) (fr' := (2, [some (.ref 41), some (.int x1), some (.int x2), none], [.int x1, .ref 41], 0, 0)) (M' := (I, J, sm_rf t d)) rfl trivial ?_
    obtain ⟨r1, hc, h⟩ := sd_q1_go h
    refine sm_W.cal (sm_C_mono D) (y := 89) (as := [.ref 41, .int x1]) (fr' := (3, [some (.ref 41), some (.int x1), some (.int x2), none], [], 0, 0)) rfl (T_Valley_singable (by omega) (by decide) hc ?_)
    show sm_W sm_sh X (sm_C sm_sh X sm_P D) me_8 Q (3, [some (.ref 41), some (.int x1), some (.int x2), none], [.int r1], 0, 0) (I, J, sm_rf t d)
    refine sm_W.run (sm_C_mono D) 4 (G := True) (fr' := (if decide ((r1 &&& x2) = x2) = true then 9 else 7, [some (.ref 41), some (.int x1), some (.int x2), none], [], 0, 0)) (M' := (I, J, sm_rf t d)) rfl trivial (sm_W.iteD h (fun hc h => ?_) (fun hc h => ?_))
    · refine sm_W.run (sm_C_mono D) 2 (G := True) (fr' := (11, [some (.ref 41), some (.int x1), some (.int x2), some (.int (1 : Int32))], [], 0, 0)) (M' := (I, J, sm_rf t d)) rfl trivial ?_
      exact (G_Choir_together_11 hD (by decide) hQ sd_fu _ _ _ h)
    · refine sm_W.run (sm_C_mono D) 1 (G := True) (fr' := (8, [some (.ref 41), some (.int x1), some (.int x2), none], [.int (0 : Int32)], 0, 0)) (M' := (I, J, sm_rf t d)) rfl trivial ?_
      cases h
      exact sm_W.ret (sm_C_mono D) rfl hQ
theorem T_Choir_together {X : Nat × (Nat → Int32)} {t d D : Nat} {Q : sm_Q} {I : sm_MI} {J : sm_MJ} {p0 : Nat} {x1 : Int32} {x2 : Int32} {rz : Int32}
    (hD : 4 ≤ D) (hp : (p0 = 21) ∨ (p0 = 41)) (h : F_Choir_together p0 x1 x2 I = some (rz)) (hQ : Q (.inl (some (.int rz))) (I, J, sm_rf t d)) : sm_C sm_sh X sm_P D 8 [.ref p0, .int x1, .int x2] (I, J, sm_rf t d) Q := by
  cases D with
  | zero => omega
  | succ D => exact sm_C.of (me := me_8) (L := [some (.ref p0), some (.int x1), some (.int x2), none]) rfl rfl rfl (sm_W.forget (L' := [some (.ref p0), some (.int x1), some (.int x2), none]) ⟨rfl, ⟨rfl, ⟨rfl, trivial⟩⟩⟩ (G_Choir_together (by omega) hp h hQ))
-- 11 Choir_mostSkilled
noncomputable def F_Choir_mostSkilled_6B (p0 : Nat) (k6 : Int32 → Int32 → Int32 → Int32 → Option (Int32)) (x1 : Int32) (x2 : Int32) (x3 : Int32) (x4 : Int32) (I : sm_MI) : Option (Int32) :=
  if (14 : Int32) ≤ x4 then
    some (x2)
  else
    if ((x1 >>> (x4 &&& 31)) &&& (1 : Int32)) = 0 then
      k6 x1 x2 x3 (x4 + (1 : Int32))
    else
      sd_gu (sm_in x4 14 = true) <|
      if (I (p0 + 5) (Int32.toNatClampNeg x4)) ≤ x3 then
        k6 x1 x2 x3 (x4 + (1 : Int32))
      else
        sd_lt ((1 : Int32) <<< (x4 &&& 31)) fun a2 =>
        sd_gu (sm_in x4 14 = true) <|
        sd_lt (I (p0 + 5) (Int32.toNatClampNeg x4)) fun a4 =>
        k6 x1 a2 a4 (x4 + (1 : Int32))
noncomputable def F_Choir_mostSkilled_6 (p0 : Nat) (I : sm_MI) (n : Nat) : Int32 → Int32 → Int32 → Int32 → Option (Int32) :=
  sd_fix (fun k x1 x2 x3 x4 => F_Choir_mostSkilled_6B p0 k x1 x2 x3 x4 I) (fun _ _ _ _ => none) n
noncomputable def F_Choir_mostSkilled (p0 : Nat) (x1 : Int32) (I : sm_MI) : Option (Int32) :=
  F_Choir_mostSkilled_6 p0 I sd_fu x1 (0 : Int32) (-1 : Int32) (0 : Int32)
theorem G_Choir_mostSkilled_6B {X : Nat × (Nat → Int32)} {t d D : Nat} {Q : sm_Q} {I : sm_MI} {J : sm_MJ} {p0 : Nat} {k6 : Int32 → Int32 → Int32 → Int32 → Option (Int32)} {x1 : Int32} {x2 : Int32} {x3 : Int32} {x4 : Int32} {rz : Int32}
    (hD : 0 ≤ D) (hp : (p0 = 21) ∨ (p0 = 41)) (h : F_Choir_mostSkilled_6B p0 k6 x1 x2 x3 x4 I = some (rz)) (hQ : Q (.inl (some (.int rz))) (I, J, sm_rf t d)) (hk6 : ∀ (x1 : Int32) (x2 : Int32) (x3 : Int32) (x4 : Int32), k6 x1 x2 x3 x4 = some (rz) → sm_W sm_sh X (sm_C sm_sh X sm_P D) me_11 Q (6, [some (.ref p0), some (.int x1), some (.int x2), some (.int x3), some (.int x4)], [], 0, 0) (I, J, sm_rf t d)) : sm_W sm_sh X (sm_C sm_sh X sm_P D) me_11 Q (6, [some (.ref p0), some (.int x1), some (.int x2), some (.int x3), some (.int x4)], [], 0, 0) (I, J, sm_rf t d) := by
  unfold F_Choir_mostSkilled_6B at h
  rcases hp with rfl | rfl
  · skip
    refine sm_W.run (sm_C_mono D) 3 (G := True) (fr' := (if decide ((14 : Int32) ≤ x4) = true then 32 else 9, [some (.ref 21), some (.int x1), some (.int x2), some (.int x3), some (.int x4)], [], 0, 0)) (M' := (I, J, sm_rf t d)) rfl trivial (sm_W.iteD h (fun hc h => ?_) (fun hc h => ?_))
    · refine sm_W.run (sm_C_mono D) 1 (G := True) (fr' := (33, [some (.ref 21), some (.int x1), some (.int x2), some (.int x3), some (.int x4)], [.int x2], 0, 0)) (M' := (I, J, sm_rf t d)) rfl trivial ?_
      cases h
      exact sm_W.ret (sm_C_mono D) rfl hQ
    · refine sm_W.run (sm_C_mono D) 6 (G := True) (fr' := (if decide (((x1 >>> (x4 &&& 31)) &&& (1 : Int32)) = 0) = true then 30 else 15, [some (.ref 21), some (.int x1), some (.int x2), some (.int x3), some (.int x4)], [], 0, 0)) (M' := (I, J, sm_rf t d)) rfl trivial (sm_W.iteD h (fun hc h => ?_) (fun hc h => ?_))
      · refine sm_W.run (sm_C_mono D) 2 (G := True) (fr' := (6, [some (.ref 21), some (.int x1), some (.int x2), some (.int x3), some (.int (x4 + (1 : Int32)))], [], 0, 0)) (M' := (I, J, sm_rf t d)) rfl trivial ?_
        exact (hk6 _ _ _ _ h)
      · obtain ⟨g1, h⟩ := sd_gu_go h
        refine sm_W.run (sm_C_mono D) 6 (G := sm_in x4 14 = true ∧ True) (fr' := (if decide ((I (21 + 5) (Int32.toNatClampNeg x4)) ≤ x3) = true then 30 else 21, [some (.ref 21), some (.int x1), some (.int x2), some (.int x3), some (.int x4)], [], 0, 0)) (M' := (I, J, sm_rf t d)) rfl ⟨g1, trivial⟩ (sm_W.iteD h (fun hc h => ?_) (fun hc h => ?_))
        · refine sm_W.run (sm_C_mono D) 2 (G := True) (fr' := (6, [some (.ref 21), some (.int x1), some (.int x2), some (.int x3), some (.int (x4 + (1 : Int32)))], [], 0, 0)) (M' := (I, J, sm_rf t d)) rfl trivial ?_
          exact (hk6 _ _ _ _ h)
        · refine sm_W.runL (sm_C_mono D) 4 (G := True) (e := ((1 : Int32) <<< (x4 &&& 31))) (fr' := fun a2 => (25, [some (.ref 21), some (.int x1), some (.int a2), some (.int x3), some (.int x4)], [], 0, 0)) (M' := fun _ => (I, J, sm_rf t d)) rfl h trivial (fun a2 h => ?_)
          obtain ⟨g3, h⟩ := sd_gu_go h
          refine sm_W.runL (sm_C_mono D) 5 (G := sm_in x4 14 = true ∧ True) (e := (I (21 + 5) (Int32.toNatClampNeg x4))) (fr' := fun a4 => (30, [some (.ref 21), some (.int x1), some (.int a2), some (.int a4), some (.int x4)], [], 0, 0)) (M' := fun _ => (I, J, sm_rf t d)) rfl h ⟨g3, trivial⟩ (fun a4 h => ?_)
          refine sm_W.run (sm_C_mono D) 2 (G := True) (fr' := (6, [some (.ref 21), some (.int x1), some (.int a2), some (.int a4), some (.int (x4 + (1 : Int32)))], [], 0, 0)) (M' := (I, J, sm_rf t d)) rfl trivial ?_
          exact (hk6 _ _ _ _ h)
  · skip
    refine sm_W.run (sm_C_mono D) 3 (G := True) (fr' := (if decide ((14 : Int32) ≤ x4) = true then 32 else 9, [some (.ref 41), some (.int x1), some (.int x2), some (.int x3), some (.int x4)], [], 0, 0)) (M' := (I, J, sm_rf t d)) rfl trivial (sm_W.iteD h (fun hc h => ?_) (fun hc h => ?_))
    · refine sm_W.run (sm_C_mono D) 1 (G := True) (fr' := (33, [some (.ref 41), some (.int x1), some (.int x2), some (.int x3), some (.int x4)], [.int x2], 0, 0)) (M' := (I, J, sm_rf t d)) rfl trivial ?_
      cases h
      exact sm_W.ret (sm_C_mono D) rfl hQ
    · refine sm_W.run (sm_C_mono D) 6 (G := True) (fr' := (if decide (((x1 >>> (x4 &&& 31)) &&& (1 : Int32)) = 0) = true then 30 else 15, [some (.ref 41), some (.int x1), some (.int x2), some (.int x3), some (.int x4)], [], 0, 0)) (M' := (I, J, sm_rf t d)) rfl trivial (sm_W.iteD h (fun hc h => ?_) (fun hc h => ?_))
      · refine sm_W.run (sm_C_mono D) 2 (G := True) (fr' := (6, [some (.ref 41), some (.int x1), some (.int x2), some (.int x3), some (.int (x4 + (1 : Int32)))], [], 0, 0)) (M' := (I, J, sm_rf t d)) rfl trivial ?_
        exact (hk6 _ _ _ _ h)
      · obtain ⟨g1, h⟩ := sd_gu_go h
        refine sm_W.run (sm_C_mono D) 6 (G := sm_in x4 14 = true ∧ True) (fr' := (if decide ((I (41 + 5) (Int32.toNatClampNeg x4)) ≤ x3) = true then 30 else 21, [some (.ref 41), some (.int x1), some (.int x2), some (.int x3), some (.int x4)], [], 0, 0)) (M' := (I, J, sm_rf t d)) rfl ⟨g1, trivial⟩ (sm_W.iteD h (fun hc h => ?_) (fun hc h => ?_))
        · refine sm_W.run (sm_C_mono D) 2 (G := True) (fr' := (6, [some (.ref 41), some (.int x1), some (.int x2), some (.int x3), some (.int (x4 + (1 : Int32)))], [], 0, 0)) (M' := (I, J, sm_rf t d)) rfl trivial ?_
          exact (hk6 _ _ _ _ h)
        · refine sm_W.runL (sm_C_mono D) 4 (G := True) (e := ((1 : Int32) <<< (x4 &&& 31))) (fr' := fun a2 => (25, [some (.ref 41), some (.int x1), some (.int a2), some (.int x3), some (.int x4)], [], 0, 0)) (M' := fun _ => (I, J, sm_rf t d)) rfl h trivial (fun a2 h => ?_)
          obtain ⟨g3, h⟩ := sd_gu_go h
          refine sm_W.runL (sm_C_mono D) 5 (G := sm_in x4 14 = true ∧ True) (e := (I (41 + 5) (Int32.toNatClampNeg x4))) (fr' := fun a4 => (30, [some (.ref 41), some (.int x1), some (.int a2), some (.int a4), some (.int x4)], [], 0, 0)) (M' := fun _ => (I, J, sm_rf t d)) rfl h ⟨g3, trivial⟩ (fun a4 h => ?_)
          refine sm_W.run (sm_C_mono D) 2 (G := True) (fr' := (6, [some (.ref 41), some (.int x1), some (.int a2), some (.int a4), some (.int (x4 + (1 : Int32)))], [], 0, 0)) (M' := (I, J, sm_rf t d)) rfl trivial ?_
          exact (hk6 _ _ _ _ h)
theorem G_Choir_mostSkilled_6 {X : Nat × (Nat → Int32)} {t d D : Nat} {Q : sm_Q} {I : sm_MI} {J : sm_MJ} {p0 : Nat} {rz : Int32}
    (hD : 0 ≤ D) (hp : (p0 = 21) ∨ (p0 = 41)) (hQ : Q (.inl (some (.int rz))) (I, J, sm_rf t d))  : ∀ (n : Nat) (x1 : Int32) (x2 : Int32) (x3 : Int32) (x4 : Int32), F_Choir_mostSkilled_6 p0 I n x1 x2 x3 x4 = some (rz) → sm_W sm_sh X (sm_C sm_sh X sm_P D) me_11 Q (6, [some (.ref p0), some (.int x1), some (.int x2), some (.int x3), some (.int x4)], [], 0, 0) (I, J, sm_rf t d) := by
  intro n
  induction n with
  | zero => intro x1 x2 x3 x4 h; cases (show (none : Option (Int32)) = some (rz) from h)
  | succ n ih => intro x1 x2 x3 x4 h; exact G_Choir_mostSkilled_6B hD hp (show F_Choir_mostSkilled_6B p0 (F_Choir_mostSkilled_6 p0 I n) x1 x2 x3 x4 I = some (rz) from h) hQ  ih
theorem G_Choir_mostSkilled {X : Nat × (Nat → Int32)} {t d D : Nat} {Q : sm_Q} {I : sm_MI} {J : sm_MJ} {p0 : Nat} {x1 : Int32} {rz : Int32}
    (hD : 0 ≤ D) (hp : (p0 = 21) ∨ (p0 = 41)) (h : F_Choir_mostSkilled p0 x1 I = some (rz)) (hQ : Q (.inl (some (.int rz))) (I, J, sm_rf t d))  : sm_W sm_sh X (sm_C sm_sh X sm_P D) me_11 Q (0, [some (.ref p0), some (.int x1), none, none, none], [], 0, 0) (I, J, sm_rf t d) := by
  unfold F_Choir_mostSkilled at h
  rcases hp with rfl | rfl
  · skip
    refine sm_W.run (sm_C_mono D) 6 (G := True) (fr' := (6, [some (.ref 21), some (.int x1), some (.int (0 : Int32)), some (.int (-1 : Int32)), some (.int (0 : Int32))], [], 0, 0)) (M' := (I, J, sm_rf t d)) rfl trivial ?_
    exact (G_Choir_mostSkilled_6 hD (by decide) hQ sd_fu _ _ _ _ h)
  · skip
    refine sm_W.run (sm_C_mono D) 6 (G := True) (fr' := (6, [some (.ref 41), some (.int x1), some (.int (0 : Int32)), some (.int (-1 : Int32)), some (.int (0 : Int32))], [], 0, 0)) (M' := (I, J, sm_rf t d)) rfl trivial ?_
    exact (G_Choir_mostSkilled_6 hD (by decide) hQ sd_fu _ _ _ _ h)
theorem T_Choir_mostSkilled {X : Nat × (Nat → Int32)} {t d D : Nat} {Q : sm_Q} {I : sm_MI} {J : sm_MJ} {p0 : Nat} {x1 : Int32} {rz : Int32}
    (hD : 1 ≤ D) (hp : (p0 = 21) ∨ (p0 = 41)) (h : F_Choir_mostSkilled p0 x1 I = some (rz)) (hQ : Q (.inl (some (.int rz))) (I, J, sm_rf t d)) : sm_C sm_sh X sm_P D 11 [.ref p0, .int x1] (I, J, sm_rf t d) Q := by
  cases D with
  | zero => omega
  | succ D => exact sm_C.of (me := me_11) (L := [some (.ref p0), some (.int x1), none, none, none]) rfl rfl rfl (sm_W.forget (L' := [some (.ref p0), some (.int x1), none, none, none]) ⟨rfl, ⟨rfl, trivial⟩⟩ (G_Choir_mostSkilled (by omega) hp h hQ))
-- 10 Choir_bestCast
noncomputable def F_Choir_bestCast_15B (p0 : Nat) (k4 : Int32 → Int32 → Int32 → Int32 → Option (Int32)) (k15 : Int32 → Int32 → Int32 → Int32 → Int32 → Int32 → Option (Int32)) (x1 : Int32) (x2 : Int32) (x3 : Int32) (x4 : Int32) (x5 : Int32) (x6 : Int32) (I : sm_MI) : Option (Int32) :=
  sd_gu (sm_in x5 20 = true) <|
  if (I (p0 + 6) (Int32.toNatClampNeg x5)) ≤ x6 then
    k4 x1 x2 x3 (x4 + (1 : Int32))
  else
    if (4 : Int32) ≤ x6 then
      k4 x1 x2 x3 (x4 + (1 : Int32))
    else
      sd_gu (sm_in x5 20 = true) <|
      sd_q1 (F_Choir_mostSkilled p0 (((I (p0 + 11) (Int32.toNatClampNeg x5)) &&& x1) &&& (x3 ^^^ (-1 : Int32))) I) fun r3 =>
      sd_lt (x3 ||| r3) fun a4 =>
      k15 x1 x2 a4 x4 x5 (x6 + (1 : Int32))
noncomputable def F_Choir_bestCast_15 (p0 : Nat) (k4 : Int32 → Int32 → Int32 → Int32 → Option (Int32)) (I : sm_MI) (n : Nat) : Int32 → Int32 → Int32 → Int32 → Int32 → Int32 → Option (Int32) :=
  sd_fix (fun k x1 x2 x3 x4 x5 x6 => F_Choir_bestCast_15B p0 k4 k x1 x2 x3 x4 x5 x6 I) (fun _ _ _ _ _ _ => none) n
noncomputable def F_Choir_bestCast_4B (p0 : Nat) (k4 : Int32 → Int32 → Int32 → Int32 → Option (Int32)) (x1 : Int32) (x2 : Int32) (x3 : Int32) (x4 : Int32) (I : sm_MI) : Option (Int32) :=
  if (4 : Int32) ≤ x4 then
    some (x3)
  else
    sd_lt ((x2 * (4 : Int32)) + x4) fun a1 =>
    F_Choir_bestCast_15 p0 k4 I sd_fu x1 x2 x3 x4 a1 (0 : Int32)
noncomputable def F_Choir_bestCast_4 (p0 : Nat) (I : sm_MI) (n : Nat) : Int32 → Int32 → Int32 → Int32 → Option (Int32) :=
  sd_fix (fun k x1 x2 x3 x4 => F_Choir_bestCast_4B p0 k x1 x2 x3 x4 I) (fun _ _ _ _ => none) n
noncomputable def F_Choir_bestCast (p0 : Nat) (x1 : Int32) (x2 : Int32) (I : sm_MI) : Option (Int32) :=
  F_Choir_bestCast_4 p0 I sd_fu x1 x2 (0 : Int32) (0 : Int32)
theorem G_Choir_bestCast_15B {X : Nat × (Nat → Int32)} {t d D : Nat} {Q : sm_Q} {I : sm_MI} {J : sm_MJ} {p0 : Nat} {k4 : Int32 → Int32 → Int32 → Int32 → Option (Int32)} {k15 : Int32 → Int32 → Int32 → Int32 → Int32 → Int32 → Option (Int32)} {x1 : Int32} {x2 : Int32} {x3 : Int32} {x4 : Int32} {x5 : Int32} {x6 : Int32} {rz : Int32}
    (hD : 1 ≤ D) (hp : (p0 = 21) ∨ (p0 = 41)) (h : F_Choir_bestCast_15B p0 k4 k15 x1 x2 x3 x4 x5 x6 I = some (rz)) (hQ : Q (.inl (some (.int rz))) (I, J, sm_rf t d)) (hk4 : ∀ (x1 : Int32) (x2 : Int32) (x3 : Int32) (x4 : Int32), k4 x1 x2 x3 x4 = some (rz) → sm_W sm_sh X (sm_C sm_sh X sm_P D) me_10 Q (4, [some (.ref p0), some (.int x1), some (.int x2), some (.int x3), some (.int x4), none, none], [], 0, 0) (I, J, sm_rf t d)) (hk15 : ∀ (x1 : Int32) (x2 : Int32) (x3 : Int32) (x4 : Int32) (x5 : Int32) (x6 : Int32), k15 x1 x2 x3 x4 x5 x6 = some (rz) → sm_W sm_sh X (sm_C sm_sh X sm_P D) me_10 Q (15, [some (.ref p0), some (.int x1), some (.int x2), some (.int x3), some (.int x4), some (.int x5), some (.int x6)], [], 0, 0) (I, J, sm_rf t d)) : sm_W sm_sh X (sm_C sm_sh X sm_P D) me_10 Q (15, [some (.ref p0), some (.int x1), some (.int x2), some (.int x3), some (.int x4), some (.int x5), some (.int x6)], [], 0, 0) (I, J, sm_rf t d) := by
  unfold F_Choir_bestCast_15B at h
  rcases hp with rfl | rfl
  · skip
    obtain ⟨g1, h⟩ := sd_gu_go h
    refine sm_W.run (sm_C_mono D) 6 (G := sm_in x5 20 = true ∧ True) (fr' := (if decide ((I (21 + 6) (Int32.toNatClampNeg x5)) ≤ x6) = true then 41 else 21, [some (.ref 21), some (.int x1), some (.int x2), some (.int x3), some (.int x4), some (.int x5), some (.int x6)], [], 0, 0)) (M' := (I, J, sm_rf t d)) rfl ⟨g1, trivial⟩ (sm_W.iteD h (fun hc h => ?_) (fun hc h => ?_))
    · refine sm_W.run (sm_C_mono D) 2 (G := True) (fr' := (4, [some (.ref 21), some (.int x1), some (.int x2), some (.int x3), some (.int (x4 + (1 : Int32))), some (.int x5), some (.int x6)], [], 0, 0)) (M' := (I, J, sm_rf t d)) rfl trivial ?_
      exact sm_W.forget (L' := [some (.ref 21), some (.int x1), some (.int x2), some (.int x3), some (.int (x4 + (1 : Int32))), none, none]) ⟨rfl, ⟨rfl, ⟨rfl, ⟨rfl, ⟨rfl, trivial⟩⟩⟩⟩⟩ (hk4 _ _ _ _ h)
    · refine sm_W.run (sm_C_mono D) 3 (G := True) (fr' := (if decide ((4 : Int32) ≤ x6) = true then 41 else 24, [some (.ref 21), some (.int x1), some (.int x2), some (.int x3), some (.int x4), some (.int x5), some (.int x6)], [], 0, 0)) (M' := (I, J, sm_rf t d)) rfl trivial (sm_W.iteD h (fun hc h => ?_) (fun hc h => ?_))
      · refine sm_W.run (sm_C_mono D) 2 (G := True) (fr' := (4, [some (.ref 21), some (.int x1), some (.int x2), some (.int x3), some (.int (x4 + (1 : Int32))), some (.int x5), some (.int x6)], [], 0, 0)) (M' := (I, J, sm_rf t d)) rfl trivial ?_
        exact sm_W.forget (L' := [some (.ref 21), some (.int x1), some (.int x2), some (.int x3), some (.int (x4 + (1 : Int32))), none, none]) ⟨rfl, ⟨rfl, ⟨rfl, ⟨rfl, ⟨rfl, trivial⟩⟩⟩⟩⟩ (hk4 _ _ _ _ h)
      · obtain ⟨g2, h⟩ := sd_gu_go h
        refine sm_W.run (sm_C_mono D) 12 (G := sm_in x5 20 = true ∧ True) (fr' := (36, [some (.ref 21), some (.int x1), some (.int x2), some (.int x3), some (.int x4), some (.int x5), some (.int x6)], [.int (((I (21 + 11) (Int32.toNatClampNeg x5)) &&& x1) &&& (x3 ^^^ (-1 : Int32))), .ref 21, .int x3], 0, 0)) (M' := (I, J, sm_rf t d)) rfl ⟨g2, trivial⟩ ?_
        obtain ⟨r3, hc, h⟩ := sd_q1_go h
        refine sm_W.cal (sm_C_mono D) (y := 11) (as := [.ref 21, .int (((I (21 + 11) (Int32.toNatClampNeg x5)) &&& x1) &&& (x3 ^^^ (-1 : Int32)))]) (fr' := (37, [some (.ref 21), some (.int x1), some (.int x2), some (.int x3), some (.int x4), some (.int x5), some (.int x6)], [.int x3], 0, 0)) rfl (T_Choir_mostSkilled (by omega) (by decide) hc ?_)
        show sm_W sm_sh X (sm_C sm_sh X sm_P D) me_10 Q (37, [some (.ref 21), some (.int x1), some (.int x2), some (.int x3), some (.int x4), some (.int x5), some (.int x6)], [.int r3, .int x3], 0, 0) (I, J, sm_rf t d)
        refine sm_W.runL (sm_C_mono D) 2 (G := True) (e := (x3 ||| r3)) (fr' := fun a4 => (39, [some (.ref 21), some (.int x1), some (.int x2), some (.int a4), some (.int x4), some (.int x5), some (.int x6)], [], 0, 0)) (M' := fun _ => (I, J, sm_rf t d)) rfl h trivial (fun a4 h => ?_)
        refine sm_W.run (sm_C_mono D) 2 (G := True) (fr' := (15, [some (.ref 21), some (.int x1), some (.int x2), some (.int a4), some (.int x4), some (.int x5), some (.int (x6 + (1 : Int32)))], [], 0, 0)) (M' := (I, J, sm_rf t d)) rfl trivial ?_
        exact (hk15 _ _ _ _ _ _ h)
  · skip
    obtain ⟨g1, h⟩ := sd_gu_go h
    refine sm_W.run (sm_C_mono D) 6 (G := sm_in x5 20 = true ∧ True) (fr' := (if decide ((I (41 + 6) (Int32.toNatClampNeg x5)) ≤ x6) = true then 41 else 21, [some (.ref 41), some (.int x1), some (.int x2), some (.int x3), some (.int x4), some (.int x5), some (.int x6)], [], 0, 0)) (M' := (I, J, sm_rf t d)) rfl ⟨g1, trivial⟩ (sm_W.iteD h (fun hc h => ?_) (fun hc h => ?_))
    · refine sm_W.run (sm_C_mono D) 2 (G := True) (fr' := (4, [some (.ref 41), some (.int x1), some (.int x2), some (.int x3), some (.int (x4 + (1 : Int32))), some (.int x5), some (.int x6)], [], 0, 0)) (M' := (I, J, sm_rf t d)) rfl trivial ?_
      exact sm_W.forget (L' := [some (.ref 41), some (.int x1), some (.int x2), some (.int x3), some (.int (x4 + (1 : Int32))), none, none]) ⟨rfl, ⟨rfl, ⟨rfl, ⟨rfl, ⟨rfl, trivial⟩⟩⟩⟩⟩ (hk4 _ _ _ _ h)
    · refine sm_W.run (sm_C_mono D) 3 (G := True) (fr' := (if decide ((4 : Int32) ≤ x6) = true then 41 else 24, [some (.ref 41), some (.int x1), some (.int x2), some (.int x3), some (.int x4), some (.int x5), some (.int x6)], [], 0, 0)) (M' := (I, J, sm_rf t d)) rfl trivial (sm_W.iteD h (fun hc h => ?_) (fun hc h => ?_))
      · refine sm_W.run (sm_C_mono D) 2 (G := True) (fr' := (4, [some (.ref 41), some (.int x1), some (.int x2), some (.int x3), some (.int (x4 + (1 : Int32))), some (.int x5), some (.int x6)], [], 0, 0)) (M' := (I, J, sm_rf t d)) rfl trivial ?_
        exact sm_W.forget (L' := [some (.ref 41), some (.int x1), some (.int x2), some (.int x3), some (.int (x4 + (1 : Int32))), none, none]) ⟨rfl, ⟨rfl, ⟨rfl, ⟨rfl, ⟨rfl, trivial⟩⟩⟩⟩⟩ (hk4 _ _ _ _ h)
      · obtain ⟨g2, h⟩ := sd_gu_go h
        refine sm_W.run (sm_C_mono D) 12 (G := sm_in x5 20 = true ∧ True) (fr' := (36, [some (.ref 41), some (.int x1), some (.int x2), some (.int x3), some (.int x4), some (.int x5), some (.int x6)], [.int (((I (41 + 11) (Int32.toNatClampNeg x5)) &&& x1) &&& (x3 ^^^ (-1 : Int32))), .ref 41, .int x3], 0, 0)) (M' := (I, J, sm_rf t d)) rfl ⟨g2, trivial⟩ ?_
        obtain ⟨r3, hc, h⟩ := sd_q1_go h
        refine sm_W.cal (sm_C_mono D) (y := 11) (as := [.ref 41, .int (((I (41 + 11) (Int32.toNatClampNeg x5)) &&& x1) &&& (x3 ^^^ (-1 : Int32)))]) (fr' := (37, [some (.ref 41), some (.int x1), some (.int x2), some (.int x3), some (.int x4), some (.int x5), some (.int x6)], [.int x3], 0, 0)) rfl (T_Choir_mostSkilled (by omega) (by decide) hc ?_)
        show sm_W sm_sh X (sm_C sm_sh X sm_P D) me_10 Q (37, [some (.ref 41), some (.int x1), some (.int x2), some (.int x3), some (.int x4), some (.int x5), some (.int x6)], [.int r3, .int x3], 0, 0) (I, J, sm_rf t d)
        refine sm_W.runL (sm_C_mono D) 2 (G := True) (e := (x3 ||| r3)) (fr' := fun a4 => (39, [some (.ref 41), some (.int x1), some (.int x2), some (.int a4), some (.int x4), some (.int x5), some (.int x6)], [], 0, 0)) (M' := fun _ => (I, J, sm_rf t d)) rfl h trivial (fun a4 h => ?_)
        refine sm_W.run (sm_C_mono D) 2 (G := True) (fr' := (15, [some (.ref 41), some (.int x1), some (.int x2), some (.int a4), some (.int x4), some (.int x5), some (.int (x6 + (1 : Int32)))], [], 0, 0)) (M' := (I, J, sm_rf t d)) rfl trivial ?_
        exact (hk15 _ _ _ _ _ _ h)
theorem G_Choir_bestCast_15 {X : Nat × (Nat → Int32)} {t d D : Nat} {Q : sm_Q} {I : sm_MI} {J : sm_MJ} {p0 : Nat} {k4 : Int32 → Int32 → Int32 → Int32 → Option (Int32)} {rz : Int32}
    (hD : 1 ≤ D) (hp : (p0 = 21) ∨ (p0 = 41)) (hQ : Q (.inl (some (.int rz))) (I, J, sm_rf t d)) (hk4 : ∀ (x1 : Int32) (x2 : Int32) (x3 : Int32) (x4 : Int32), k4 x1 x2 x3 x4 = some (rz) → sm_W sm_sh X (sm_C sm_sh X sm_P D) me_10 Q (4, [some (.ref p0), some (.int x1), some (.int x2), some (.int x3), some (.int x4), none, none], [], 0, 0) (I, J, sm_rf t d)) : ∀ (n : Nat) (x1 : Int32) (x2 : Int32) (x3 : Int32) (x4 : Int32) (x5 : Int32) (x6 : Int32), F_Choir_bestCast_15 p0 k4 I n x1 x2 x3 x4 x5 x6 = some (rz) → sm_W sm_sh X (sm_C sm_sh X sm_P D) me_10 Q (15, [some (.ref p0), some (.int x1), some (.int x2), some (.int x3), some (.int x4), some (.int x5), some (.int x6)], [], 0, 0) (I, J, sm_rf t d) := by
  intro n
  induction n with
  | zero => intro x1 x2 x3 x4 x5 x6 h; cases (show (none : Option (Int32)) = some (rz) from h)
  | succ n ih => intro x1 x2 x3 x4 x5 x6 h; exact G_Choir_bestCast_15B hD hp (show F_Choir_bestCast_15B p0 k4 (F_Choir_bestCast_15 p0 k4 I n) x1 x2 x3 x4 x5 x6 I = some (rz) from h) hQ hk4 ih
theorem G_Choir_bestCast_4B {X : Nat × (Nat → Int32)} {t d D : Nat} {Q : sm_Q} {I : sm_MI} {J : sm_MJ} {p0 : Nat} {k4 : Int32 → Int32 → Int32 → Int32 → Option (Int32)} {x1 : Int32} {x2 : Int32} {x3 : Int32} {x4 : Int32} {rz : Int32}
    (hD : 1 ≤ D) (hp : (p0 = 21) ∨ (p0 = 41)) (h : F_Choir_bestCast_4B p0 k4 x1 x2 x3 x4 I = some (rz)) (hQ : Q (.inl (some (.int rz))) (I, J, sm_rf t d)) (hk4 : ∀ (x1 : Int32) (x2 : Int32) (x3 : Int32) (x4 : Int32), k4 x1 x2 x3 x4 = some (rz) → sm_W sm_sh X (sm_C sm_sh X sm_P D) me_10 Q (4, [some (.ref p0), some (.int x1), some (.int x2), some (.int x3), some (.int x4), none, none], [], 0, 0) (I, J, sm_rf t d)) : sm_W sm_sh X (sm_C sm_sh X sm_P D) me_10 Q (4, [some (.ref p0), some (.int x1), some (.int x2), some (.int x3), some (.int x4), none, none], [], 0, 0) (I, J, sm_rf t d) := by
  unfold F_Choir_bestCast_4B at h
  rcases hp with rfl | rfl
  · skip
    refine sm_W.run (sm_C_mono D) 3 (G := True) (fr' := (if decide ((4 : Int32) ≤ x4) = true then 43 else 7, [some (.ref 21), some (.int x1), some (.int x2), some (.int x3), some (.int x4), none, none], [], 0, 0)) (M' := (I, J, sm_rf t d)) rfl trivial (sm_W.iteD h (fun hc h => ?_) (fun hc h => ?_))
    · refine sm_W.run (sm_C_mono D) 1 (G := True) (fr' := (44, [some (.ref 21), some (.int x1), some (.int x2), some (.int x3), some (.int x4), none, none], [.int x3], 0, 0)) (M' := (I, J, sm_rf t d)) rfl trivial ?_
      cases h
      exact sm_W.ret (sm_C_mono D) rfl hQ
    · refine sm_W.runL (sm_C_mono D) 6 (G := True) (e := ((x2 * (4 : Int32)) + x4)) (fr' := fun a1 => (13, [some (.ref 21), some (.int x1), some (.int x2), some (.int x3), some (.int x4), some (.int a1), none], [], 0, 0)) (M' := fun _ => (I, J, sm_rf t d)) rfl h trivial (fun a1 h => ?_)
      refine sm_W.run (sm_C_mono D) 2 (G := True) (fr' := (15, [some (.ref 21), some (.int x1), some (.int x2), some (.int x3), some (.int x4), some (.int a1), some (.int (0 : Int32))], [], 0, 0)) (M' := (I, J, sm_rf t d)) rfl trivial ?_
      exact (G_Choir_bestCast_15 hD (by decide) hQ hk4 sd_fu _ _ _ _ _ _ h)
  · skip
    refine sm_W.run (sm_C_mono D) 3 (G := True) (fr' := (if decide ((4 : Int32) ≤ x4) = true then 43 else 7, [some (.ref 41), some (.int x1), some (.int x2), some (.int x3), some (.int x4), none, none], [], 0, 0)) (M' := (I, J, sm_rf t d)) rfl trivial (sm_W.iteD h (fun hc h => ?_) (fun hc h => ?_))
    · refine sm_W.run (sm_C_mono D) 1 (G := True) (fr' := (44, [some (.ref 41), some (.int x1), some (.int x2), some (.int x3), some (.int x4), none, none], [.int x3], 0, 0)) (M' := (I, J, sm_rf t d)) rfl trivial ?_
      cases h
      exact sm_W.ret (sm_C_mono D) rfl hQ
    · refine sm_W.runL (sm_C_mono D) 6 (G := True) (e := ((x2 * (4 : Int32)) + x4)) (fr' := fun a1 => (13, [some (.ref 41), some (.int x1), some (.int x2), some (.int x3), some (.int x4), some (.int a1), none], [], 0, 0)) (M' := fun _ => (I, J, sm_rf t d)) rfl h trivial (fun a1 h => ?_)
      refine sm_W.run (sm_C_mono D) 2 (G := True) (fr' := (15, [some (.ref 41), some (.int x1), some (.int x2), some (.int x3), some (.int x4), some (.int a1), some (.int (0 : Int32))], [], 0, 0)) (M' := (I, J, sm_rf t d)) rfl trivial ?_
      exact (G_Choir_bestCast_15 hD (by decide) hQ hk4 sd_fu _ _ _ _ _ _ h)
theorem G_Choir_bestCast_4 {X : Nat × (Nat → Int32)} {t d D : Nat} {Q : sm_Q} {I : sm_MI} {J : sm_MJ} {p0 : Nat} {rz : Int32}
    (hD : 1 ≤ D) (hp : (p0 = 21) ∨ (p0 = 41)) (hQ : Q (.inl (some (.int rz))) (I, J, sm_rf t d))  : ∀ (n : Nat) (x1 : Int32) (x2 : Int32) (x3 : Int32) (x4 : Int32), F_Choir_bestCast_4 p0 I n x1 x2 x3 x4 = some (rz) → sm_W sm_sh X (sm_C sm_sh X sm_P D) me_10 Q (4, [some (.ref p0), some (.int x1), some (.int x2), some (.int x3), some (.int x4), none, none], [], 0, 0) (I, J, sm_rf t d) := by
  intro n
  induction n with
  | zero => intro x1 x2 x3 x4 h; cases (show (none : Option (Int32)) = some (rz) from h)
  | succ n ih => intro x1 x2 x3 x4 h; exact G_Choir_bestCast_4B hD hp (show F_Choir_bestCast_4B p0 (F_Choir_bestCast_4 p0 I n) x1 x2 x3 x4 I = some (rz) from h) hQ  ih
theorem G_Choir_bestCast {X : Nat × (Nat → Int32)} {t d D : Nat} {Q : sm_Q} {I : sm_MI} {J : sm_MJ} {p0 : Nat} {x1 : Int32} {x2 : Int32} {rz : Int32}
    (hD : 1 ≤ D) (hp : (p0 = 21) ∨ (p0 = 41)) (h : F_Choir_bestCast p0 x1 x2 I = some (rz)) (hQ : Q (.inl (some (.int rz))) (I, J, sm_rf t d))  : sm_W sm_sh X (sm_C sm_sh X sm_P D) me_10 Q (0, [some (.ref p0), some (.int x1), some (.int x2), none, none, none, none], [], 0, 0) (I, J, sm_rf t d) := by
  unfold F_Choir_bestCast at h
  rcases hp with rfl | rfl
  · skip
    refine sm_W.run (sm_C_mono D) 4 (G := True) (fr' := (4, [some (.ref 21), some (.int x1), some (.int x2), some (.int (0 : Int32)), some (.int (0 : Int32)), none, none], [], 0, 0)) (M' := (I, J, sm_rf t d)) rfl trivial ?_
    exact (G_Choir_bestCast_4 hD (by decide) hQ sd_fu _ _ _ _ h)
  · skip
    refine sm_W.run (sm_C_mono D) 4 (G := True) (fr' := (4, [some (.ref 41), some (.int x1), some (.int x2), some (.int (0 : Int32)), some (.int (0 : Int32)), none, none], [], 0, 0)) (M' := (I, J, sm_rf t d)) rfl trivial ?_
    exact (G_Choir_bestCast_4 hD (by decide) hQ sd_fu _ _ _ _ h)
theorem T_Choir_bestCast {X : Nat × (Nat → Int32)} {t d D : Nat} {Q : sm_Q} {I : sm_MI} {J : sm_MJ} {p0 : Nat} {x1 : Int32} {x2 : Int32} {rz : Int32}
    (hD : 2 ≤ D) (hp : (p0 = 21) ∨ (p0 = 41)) (h : F_Choir_bestCast p0 x1 x2 I = some (rz)) (hQ : Q (.inl (some (.int rz))) (I, J, sm_rf t d)) : sm_C sm_sh X sm_P D 10 [.ref p0, .int x1, .int x2] (I, J, sm_rf t d) Q := by
  cases D with
  | zero => omega
  | succ D => exact sm_C.of (me := me_10) (L := [some (.ref p0), some (.int x1), some (.int x2), none, none, none, none]) rfl rfl rfl (sm_W.forget (L' := [some (.ref p0), some (.int x1), some (.int x2), none, none, none, none]) ⟨rfl, ⟨rfl, ⟨rfl, trivial⟩⟩⟩ (G_Choir_bestCast (by omega) hp h hQ))
-- 23 Count_choose
noncomputable def F_Count_choose_11B (k11 : Int32 → Int32 → Int64 → Int32 → Option (Int64)) (x0 : Int32) (x1 : Int32) (x2 : Int64) (x4 : Int32) : Option (Int64) :=
  if x1 ≤ x4 then
    some (x2)
  else
    sd_gu (¬ (Int32.toInt64 (x4 + (1 : Int32))) = 0) <|
    sd_lt ((x2 * (Int32.toInt64 (x0 - x4))) / (Int32.toInt64 (x4 + (1 : Int32)))) fun a2 =>
    k11 x0 x1 a2 (x4 + (1 : Int32))
noncomputable def F_Count_choose_11  (n : Nat) : Int32 → Int32 → Int64 → Int32 → Option (Int64) :=
  sd_fix (fun k x0 x1 x2 x4 => F_Count_choose_11B k x0 x1 x2 x4) (fun _ _ _ _ => none) n
noncomputable def F_Count_choose (x0 : Int32) (x1 : Int32) : Option (Int64) :=
  if x1 < 0 then
    some ((0 : Int64))
  else
    if x1 ≤ x0 then
      F_Count_choose_11 sd_fu x0 x1 (1 : Int64) (0 : Int32)
    else
      some ((0 : Int64))
theorem G_Count_choose_11B {X : Nat × (Nat → Int32)} {t d D : Nat} {Q : sm_Q} {I : sm_MI} {J : sm_MJ} {k11 : Int32 → Int32 → Int64 → Int32 → Option (Int64)} {x0 : Int32} {x1 : Int32} {x2 : Int64} {x4 : Int32} {rz : Int64}
    (hD : 0 ≤ D) (h : F_Count_choose_11B k11 x0 x1 x2 x4 = some (rz)) (hQ : Q (.inl (some (.long rz))) (I, J, sm_rf t d)) (hk11 : ∀ (x0 : Int32) (x1 : Int32) (x2 : Int64) (x4 : Int32), k11 x0 x1 x2 x4 = some (rz) → sm_W sm_sh X (sm_C sm_sh X sm_P D) me_23 Q (11, [some (.int x0), some (.int x1), some (.long x2), none, some (.int x4)], [], 0, 0) (I, J, sm_rf t d)) : sm_W sm_sh X (sm_C sm_sh X sm_P D) me_23 Q (11, [some (.int x0), some (.int x1), some (.long x2), none, some (.int x4)], [], 0, 0) (I, J, sm_rf t d) := by
  unfold F_Count_choose_11B at h
  refine sm_W.run (sm_C_mono D) 3 (G := True) (fr' := (if decide (x1 ≤ x4) = true then 28 else 14, [some (.int x0), some (.int x1), some (.long x2), none, some (.int x4)], [], 0, 0)) (M' := (I, J, sm_rf t d)) rfl trivial (sm_W.iteD h (fun hc h => ?_) (fun hc h => ?_))
  · refine sm_W.run (sm_C_mono D) 1 (G := True) (fr' := (29, [some (.int x0), some (.int x1), some (.long x2), none, some (.int x4)], [.long x2], 0, 0)) (M' := (I, J, sm_rf t d)) rfl trivial ?_
    cases h
    exact sm_W.ret (sm_C_mono D) rfl hQ
  · obtain ⟨g1, h⟩ := sd_gu_go h
    refine sm_W.runL (sm_C_mono D) 12 (G := ¬ (Int32.toInt64 (x4 + (1 : Int32))) = 0 ∧ True) (e := ((x2 * (Int32.toInt64 (x0 - x4))) / (Int32.toInt64 (x4 + (1 : Int32))))) (fr' := fun a2 => (26, [some (.int x0), some (.int x1), some (.long a2), none, some (.int x4)], [], 0, 0)) (M' := fun _ => (I, J, sm_rf t d)) rfl h ⟨g1, trivial⟩ (fun a2 h => ?_)
    refine sm_W.run (sm_C_mono D) 2 (G := True) (fr' := (11, [some (.int x0), some (.int x1), some (.long a2), none, some (.int (x4 + (1 : Int32)))], [], 0, 0)) (M' := (I, J, sm_rf t d)) rfl trivial ?_
    exact (hk11 _ _ _ _ h)
theorem G_Count_choose_11 {X : Nat × (Nat → Int32)} {t d D : Nat} {Q : sm_Q} {I : sm_MI} {J : sm_MJ} {rz : Int64}
    (hD : 0 ≤ D) (hQ : Q (.inl (some (.long rz))) (I, J, sm_rf t d))  : ∀ (n : Nat) (x0 : Int32) (x1 : Int32) (x2 : Int64) (x4 : Int32), F_Count_choose_11 n x0 x1 x2 x4 = some (rz) → sm_W sm_sh X (sm_C sm_sh X sm_P D) me_23 Q (11, [some (.int x0), some (.int x1), some (.long x2), none, some (.int x4)], [], 0, 0) (I, J, sm_rf t d) := by
  intro n
  induction n with
  | zero => intro x0 x1 x2 x4 h; cases (show (none : Option (Int64)) = some (rz) from h)
  | succ n ih => intro x0 x1 x2 x4 h; exact G_Count_choose_11B hD (show F_Count_choose_11B (F_Count_choose_11 n) x0 x1 x2 x4 = some (rz) from h) hQ  ih
theorem G_Count_choose {X : Nat × (Nat → Int32)} {t d D : Nat} {Q : sm_Q} {I : sm_MI} {J : sm_MJ} {x0 : Int32} {x1 : Int32} {rz : Int64}
    (hD : 0 ≤ D) (h : F_Count_choose x0 x1 = some (rz)) (hQ : Q (.inl (some (.long rz))) (I, J, sm_rf t d))  : sm_W sm_sh X (sm_C sm_sh X sm_P D) me_23 Q (0, [some (.int x0), some (.int x1), none, none, none], [], 0, 0) (I, J, sm_rf t d) := by
  unfold F_Count_choose at h
  refine sm_W.run (sm_C_mono D) 2 (G := True) (fr' := (if decide (x1 < 0) = true then 5 else 2, [some (.int x0), some (.int x1), none, none, none], [], 0, 0)) (M' := (I, J, sm_rf t d)) rfl trivial (sm_W.iteD h (fun hc h => ?_) (fun hc h => ?_))
  · refine sm_W.run (sm_C_mono D) 1 (G := True) (fr' := (6, [some (.int x0), some (.int x1), none, none, none], [.long (0 : Int64)], 0, 0)) (M' := (I, J, sm_rf t d)) rfl trivial ?_
    cases h
    exact sm_W.ret (sm_C_mono D) rfl hQ
  · refine sm_W.run (sm_C_mono D) 3 (G := True) (fr' := (if decide (x1 ≤ x0) = true then 7 else 5, [some (.int x0), some (.int x1), none, none, none], [], 0, 0)) (M' := (I, J, sm_rf t d)) rfl trivial (sm_W.iteD h (fun hc h => ?_) (fun hc h => ?_))
    · refine sm_W.run (sm_C_mono D) 4 (G := True) (fr' := (11, [some (.int x0), some (.int x1), some (.long (1 : Int64)), none, some (.int (0 : Int32))], [], 0, 0)) (M' := (I, J, sm_rf t d)) rfl trivial ?_
      exact (G_Count_choose_11 hD hQ sd_fu _ _ _ _ h)
    · refine sm_W.run (sm_C_mono D) 1 (G := True) (fr' := (6, [some (.int x0), some (.int x1), none, none, none], [.long (0 : Int64)], 0, 0)) (M' := (I, J, sm_rf t d)) rfl trivial ?_
      cases h
      exact sm_W.ret (sm_C_mono D) rfl hQ
theorem T_Count_choose {X : Nat × (Nat → Int32)} {t d D : Nat} {Q : sm_Q} {I : sm_MI} {J : sm_MJ} {x0 : Int32} {x1 : Int32} {rz : Int64}
    (hD : 1 ≤ D) (h : F_Count_choose x0 x1 = some (rz)) (hQ : Q (.inl (some (.long rz))) (I, J, sm_rf t d)) : sm_C sm_sh X sm_P D 23 [.int x0, .int x1] (I, J, sm_rf t d) Q := by
  cases D with
  | zero => omega
  | succ D => exact sm_C.of (me := me_23) (L := [some (.int x0), some (.int x1), none, none, none]) rfl rfl rfl (sm_W.forget (L' := [some (.int x0), some (.int x1), none, none, none]) ⟨rfl, ⟨rfl, trivial⟩⟩ (G_Count_choose (by omega) h hQ))
-- 12 Choir_countCasts
noncomputable def F_Choir_countCasts_11B (p0 : Nat) (k11 : Int32 → Int32 → Int64 → Int32 → Option (Int64)) (x1 : Int32) (x2 : Int32) (x3 : Int64) (x5 : Int32) (I : sm_MI) : Option (Int64) :=
  if (4 : Int32) ≤ x5 then
    some (x3)
  else
    sd_lt ((x2 * (4 : Int32)) + x5) fun a1 =>
    sd_gu (sm_in a1 20 = true) <|
    sd_q1 (F_Int_bitCount ((I (p0 + 11) (Int32.toNatClampNeg a1)) &&& x1)) fun r3 =>
    sd_gu (sm_in a1 20 = true) <|
    sd_q1 (F_Count_choose r3 (I (p0 + 6) (Int32.toNatClampNeg a1))) fun r5 =>
    sd_lt (x3 * r5) fun a6 =>
    k11 x1 x2 a6 (x5 + (1 : Int32))
noncomputable def F_Choir_countCasts_11 (p0 : Nat) (I : sm_MI) (n : Nat) : Int32 → Int32 → Int64 → Int32 → Option (Int64) :=
  sd_fix (fun k x1 x2 x3 x5 => F_Choir_countCasts_11B p0 k x1 x2 x3 x5 I) (fun _ _ _ _ => none) n
noncomputable def F_Choir_countCasts (p0 : Nat) (x1 : Int32) (x2 : Int32) (I : sm_MI) : Option (Int64) :=
  sd_q1 (F_Valley_canBeSung p0 x2 x1 I) fun r1 =>
  if ¬ r1 = 0 then
    F_Choir_countCasts_11 p0 I sd_fu x1 x2 (1 : Int64) (0 : Int32)
  else
    some ((0 : Int64))
theorem G_Choir_countCasts_11B {X : Nat × (Nat → Int32)} {t d D : Nat} {Q : sm_Q} {I : sm_MI} {J : sm_MJ} {p0 : Nat} {k11 : Int32 → Int32 → Int64 → Int32 → Option (Int64)} {x1 : Int32} {x2 : Int32} {x3 : Int64} {x5 : Int32} {rz : Int64}
    (hD : 2 ≤ D) (hp : (p0 = 21) ∨ (p0 = 41)) (h : F_Choir_countCasts_11B p0 k11 x1 x2 x3 x5 I = some (rz)) (hQ : Q (.inl (some (.long rz))) (I, J, sm_rf t d)) (hk11 : ∀ (x1 : Int32) (x2 : Int32) (x3 : Int64) (x5 : Int32), k11 x1 x2 x3 x5 = some (rz) → sm_W sm_sh X (sm_C sm_sh X sm_P D) me_12 Q (11, [some (.ref p0), some (.int x1), some (.int x2), some (.long x3), none, some (.int x5), none, none], [], 0, 0) (I, J, sm_rf t d)) : sm_W sm_sh X (sm_C sm_sh X sm_P D) me_12 Q (11, [some (.ref p0), some (.int x1), some (.int x2), some (.long x3), none, some (.int x5), none, none], [], 0, 0) (I, J, sm_rf t d) := by
  unfold F_Choir_countCasts_11B at h
  rcases hp with rfl | rfl
  · skip
    refine sm_W.run (sm_C_mono D) 3 (G := True) (fr' := (if decide ((4 : Int32) ≤ x5) = true then 39 else 14, [some (.ref 21), some (.int x1), some (.int x2), some (.long x3), none, some (.int x5), none, none], [], 0, 0)) (M' := (I, J, sm_rf t d)) rfl trivial (sm_W.iteD h (fun hc h => ?_) (fun hc h => ?_))
    · refine sm_W.run (sm_C_mono D) 1 (G := True) (fr' := (40, [some (.ref 21), some (.int x1), some (.int x2), some (.long x3), none, some (.int x5), none, none], [.long x3], 0, 0)) (M' := (I, J, sm_rf t d)) rfl trivial ?_
      cases h
      exact sm_W.ret (sm_C_mono D) rfl hQ
    · refine sm_W.runL (sm_C_mono D) 6 (G := True) (e := ((x2 * (4 : Int32)) + x5)) (fr' := fun a1 => (20, [some (.ref 21), some (.int x1), some (.int x2), some (.long x3), none, some (.int x5), some (.int a1), none], [], 0, 0)) (M' := fun _ => (I, J, sm_rf t d)) rfl h trivial (fun a1 h => ?_)
      obtain ⟨g2, h⟩ := sd_gu_go h
      refine sm_W.run (sm_C_mono D) 6 (G := sm_in a1 20 = true ∧ True) (fr' := (26, [some (.ref 21), some (.int x1), some (.int x2), some (.long x3), none, some (.int x5), some (.int a1), none], [.int ((I (21 + 11) (Int32.toNatClampNeg a1)) &&& x1)], 0, 0)) (M' := (I, J, sm_rf t d)) rfl ⟨g2, trivial⟩ ?_
      obtain ⟨r3, hc, h⟩ := sd_q1_go h
      refine sm_W.cal (sm_C_mono D) (y := 268) (as := [.int ((I (21 + 11) (Int32.toNatClampNeg a1)) &&& x1)]) (fr' := (27, [some (.ref 21), some (.int x1), some (.int x2), some (.long x3), none, some (.int x5), some (.int a1), none], [], 0, 0)) rfl (T_Int_bitCount (by omega) hc ?_)
      show sm_W sm_sh X (sm_C sm_sh X sm_P D) me_12 Q (27, [some (.ref 21), some (.int x1), some (.int x2), some (.long x3), none, some (.int x5), some (.int a1), none], [.int r3], 0, 0) (I, J, sm_rf t d)
      obtain ⟨g4, h⟩ := sd_gu_go h
      refine sm_W.run (sm_C_mono D) 7 (G := sm_in a1 20 = true ∧ True) (fr' := (34, [some (.ref 21), some (.int x1), some (.int x2), some (.long x3), none, some (.int x5), some (.int a1), some (.int r3)], [.int (I (21 + 6) (Int32.toNatClampNeg a1)), .int r3, .long x3], 0, 0)) (M' := (I, J, sm_rf t d)) rfl ⟨g4, trivial⟩ ?_
      obtain ⟨r5, hc, h⟩ := sd_q1_go h
      refine sm_W.cal (sm_C_mono D) (y := 23) (as := [.int r3, .int (I (21 + 6) (Int32.toNatClampNeg a1))]) (fr' := (35, [some (.ref 21), some (.int x1), some (.int x2), some (.long x3), none, some (.int x5), some (.int a1), some (.int r3)], [.long x3], 0, 0)) rfl (T_Count_choose (by omega) hc ?_)
      show sm_W sm_sh X (sm_C sm_sh X sm_P D) me_12 Q (35, [some (.ref 21), some (.int x1), some (.int x2), some (.long x3), none, some (.int x5), some (.int a1), some (.int r3)], [.long r5, .long x3], 0, 0) (I, J, sm_rf t d)
      refine sm_W.runL (sm_C_mono D) 2 (G := True) (e := (x3 * r5)) (fr' := fun a6 => (37, [some (.ref 21), some (.int x1), some (.int x2), some (.long a6), none, some (.int x5), some (.int a1), some (.int r3)], [], 0, 0)) (M' := fun _ => (I, J, sm_rf t d)) rfl h trivial (fun a6 h => ?_)
      refine sm_W.run (sm_C_mono D) 2 (G := True) (fr' := (11, [some (.ref 21), some (.int x1), some (.int x2), some (.long a6), none, some (.int (x5 + (1 : Int32))), some (.int a1), some (.int r3)], [], 0, 0)) (M' := (I, J, sm_rf t d)) rfl trivial ?_
      exact sm_W.forget (L' := [some (.ref 21), some (.int x1), some (.int x2), some (.long a6), none, some (.int (x5 + (1 : Int32))), none, none]) ⟨rfl, ⟨rfl, ⟨rfl, ⟨rfl, ⟨rfl, trivial⟩⟩⟩⟩⟩ (hk11 _ _ _ _ h)
  · skip
    refine sm_W.run (sm_C_mono D) 3 (G := True) (fr' := (if decide ((4 : Int32) ≤ x5) = true then 39 else 14, [some (.ref 41), some (.int x1), some (.int x2), some (.long x3), none, some (.int x5), none, none], [], 0, 0)) (M' := (I, J, sm_rf t d)) rfl trivial (sm_W.iteD h (fun hc h => ?_) (fun hc h => ?_))
    · refine sm_W.run (sm_C_mono D) 1 (G := True) (fr' := (40, [some (.ref 41), some (.int x1), some (.int x2), some (.long x3), none, some (.int x5), none, none], [.long x3], 0, 0)) (M' := (I, J, sm_rf t d)) rfl trivial ?_
      cases h
      exact sm_W.ret (sm_C_mono D) rfl hQ
    · refine sm_W.runL (sm_C_mono D) 6 (G := True) (e := ((x2 * (4 : Int32)) + x5)) (fr' := fun a1 => (20, [some (.ref 41), some (.int x1), some (.int x2), some (.long x3), none, some (.int x5), some (.int a1), none], [], 0, 0)) (M' := fun _ => (I, J, sm_rf t d)) rfl h trivial (fun a1 h => ?_)
      obtain ⟨g2, h⟩ := sd_gu_go h
      refine sm_W.run (sm_C_mono D) 6 (G := sm_in a1 20 = true ∧ True) (fr' := (26, [some (.ref 41), some (.int x1), some (.int x2), some (.long x3), none, some (.int x5), some (.int a1), none], [.int ((I (41 + 11) (Int32.toNatClampNeg a1)) &&& x1)], 0, 0)) (M' := (I, J, sm_rf t d)) rfl ⟨g2, trivial⟩ ?_
      obtain ⟨r3, hc, h⟩ := sd_q1_go h
      refine sm_W.cal (sm_C_mono D) (y := 268) (as := [.int ((I (41 + 11) (Int32.toNatClampNeg a1)) &&& x1)]) (fr' := (27, [some (.ref 41), some (.int x1), some (.int x2), some (.long x3), none, some (.int x5), some (.int a1), none], [], 0, 0)) rfl (T_Int_bitCount (by omega) hc ?_)
      show sm_W sm_sh X (sm_C sm_sh X sm_P D) me_12 Q (27, [some (.ref 41), some (.int x1), some (.int x2), some (.long x3), none, some (.int x5), some (.int a1), none], [.int r3], 0, 0) (I, J, sm_rf t d)
      obtain ⟨g4, h⟩ := sd_gu_go h
      refine sm_W.run (sm_C_mono D) 7 (G := sm_in a1 20 = true ∧ True) (fr' := (34, [some (.ref 41), some (.int x1), some (.int x2), some (.long x3), none, some (.int x5), some (.int a1), some (.int r3)], [.int (I (41 + 6) (Int32.toNatClampNeg a1)), .int r3, .long x3], 0, 0)) (M' := (I, J, sm_rf t d)) rfl ⟨g4, trivial⟩ ?_
      obtain ⟨r5, hc, h⟩ := sd_q1_go h
      refine sm_W.cal (sm_C_mono D) (y := 23) (as := [.int r3, .int (I (41 + 6) (Int32.toNatClampNeg a1))]) (fr' := (35, [some (.ref 41), some (.int x1), some (.int x2), some (.long x3), none, some (.int x5), some (.int a1), some (.int r3)], [.long x3], 0, 0)) rfl (T_Count_choose (by omega) hc ?_)
      show sm_W sm_sh X (sm_C sm_sh X sm_P D) me_12 Q (35, [some (.ref 41), some (.int x1), some (.int x2), some (.long x3), none, some (.int x5), some (.int a1), some (.int r3)], [.long r5, .long x3], 0, 0) (I, J, sm_rf t d)
      refine sm_W.runL (sm_C_mono D) 2 (G := True) (e := (x3 * r5)) (fr' := fun a6 => (37, [some (.ref 41), some (.int x1), some (.int x2), some (.long a6), none, some (.int x5), some (.int a1), some (.int r3)], [], 0, 0)) (M' := fun _ => (I, J, sm_rf t d)) rfl h trivial (fun a6 h => ?_)
      refine sm_W.run (sm_C_mono D) 2 (G := True) (fr' := (11, [some (.ref 41), some (.int x1), some (.int x2), some (.long a6), none, some (.int (x5 + (1 : Int32))), some (.int a1), some (.int r3)], [], 0, 0)) (M' := (I, J, sm_rf t d)) rfl trivial ?_
      exact sm_W.forget (L' := [some (.ref 41), some (.int x1), some (.int x2), some (.long a6), none, some (.int (x5 + (1 : Int32))), none, none]) ⟨rfl, ⟨rfl, ⟨rfl, ⟨rfl, ⟨rfl, trivial⟩⟩⟩⟩⟩ (hk11 _ _ _ _ h)
theorem G_Choir_countCasts_11 {X : Nat × (Nat → Int32)} {t d D : Nat} {Q : sm_Q} {I : sm_MI} {J : sm_MJ} {p0 : Nat} {rz : Int64}
    (hD : 2 ≤ D) (hp : (p0 = 21) ∨ (p0 = 41)) (hQ : Q (.inl (some (.long rz))) (I, J, sm_rf t d))  : ∀ (n : Nat) (x1 : Int32) (x2 : Int32) (x3 : Int64) (x5 : Int32), F_Choir_countCasts_11 p0 I n x1 x2 x3 x5 = some (rz) → sm_W sm_sh X (sm_C sm_sh X sm_P D) me_12 Q (11, [some (.ref p0), some (.int x1), some (.int x2), some (.long x3), none, some (.int x5), none, none], [], 0, 0) (I, J, sm_rf t d) := by
  intro n
  induction n with
  | zero => intro x1 x2 x3 x5 h; cases (show (none : Option (Int64)) = some (rz) from h)
  | succ n ih => intro x1 x2 x3 x5 h; exact G_Choir_countCasts_11B hD hp (show F_Choir_countCasts_11B p0 (F_Choir_countCasts_11 p0 I n) x1 x2 x3 x5 I = some (rz) from h) hQ  ih
theorem G_Choir_countCasts {X : Nat × (Nat → Int32)} {t d D : Nat} {Q : sm_Q} {I : sm_MI} {J : sm_MJ} {p0 : Nat} {x1 : Int32} {x2 : Int32} {rz : Int64}
    (hD : 2 ≤ D) (hp : (p0 = 21) ∨ (p0 = 41)) (h : F_Choir_countCasts p0 x1 x2 I = some (rz)) (hQ : Q (.inl (some (.long rz))) (I, J, sm_rf t d))  : sm_W sm_sh X (sm_C sm_sh X sm_P D) me_12 Q (0, [some (.ref p0), some (.int x1), some (.int x2), none, none, none, none, none], [], 0, 0) (I, J, sm_rf t d) := by
  unfold F_Choir_countCasts at h
  rcases hp with rfl | rfl
  · skip
    refine sm_W.run (sm_C_mono D) 3 (G := True) (fr' := (3, [some (.ref 21), some (.int x1), some (.int x2), none, none, none, none, none], [.int x1, .int x2, .ref 21], 0, 0)) (M' := (I, J, sm_rf t d)) rfl trivial ?_
    obtain ⟨r1, hc, h⟩ := sd_q1_go h
    refine sm_W.cal (sm_C_mono D) (y := 88) (as := [.ref 21, .int x2, .int x1]) (fr' := (4, [some (.ref 21), some (.int x1), some (.int x2), none, none, none, none, none], [], 0, 0)) rfl (T_Valley_canBeSung (by omega) (by decide) hc ?_)
    show sm_W sm_sh X (sm_C sm_sh X sm_P D) me_12 Q (4, [some (.ref 21), some (.int x1), some (.int x2), none, none, none, none, none], [.int r1], 0, 0) (I, J, sm_rf t d)
    refine sm_W.run (sm_C_mono D) 1 (G := True) (fr' := (if decide (¬ r1 = 0) = true then 7 else 5, [some (.ref 21), some (.int x1), some (.int x2), none, none, none, none, none], [], 0, 0)) (M' := (I, J, sm_rf t d)) rfl trivial (sm_W.iteD h (fun hc h => ?_) (fun hc h => ?_))
    · refine sm_W.run (sm_C_mono D) 4 (G := True) (fr' := (11, [some (.ref 21), some (.int x1), some (.int x2), some (.long (1 : Int64)), none, some (.int (0 : Int32)), none, none], [], 0, 0)) (M' := (I, J, sm_rf t d)) rfl trivial ?_
      exact (G_Choir_countCasts_11 hD (by decide) hQ sd_fu _ _ _ _ h)
    · refine sm_W.run (sm_C_mono D) 1 (G := True) (fr' := (6, [some (.ref 21), some (.int x1), some (.int x2), none, none, none, none, none], [.long (0 : Int64)], 0, 0)) (M' := (I, J, sm_rf t d)) rfl trivial ?_
      cases h
      exact sm_W.ret (sm_C_mono D) rfl hQ
  · skip
    refine sm_W.run (sm_C_mono D) 3 (G := True) (fr' := (3, [some (.ref 41), some (.int x1), some (.int x2), none, none, none, none, none], [.int x1, .int x2, .ref 41], 0, 0)) (M' := (I, J, sm_rf t d)) rfl trivial ?_
    obtain ⟨r1, hc, h⟩ := sd_q1_go h
    refine sm_W.cal (sm_C_mono D) (y := 88) (as := [.ref 41, .int x2, .int x1]) (fr' := (4, [some (.ref 41), some (.int x1), some (.int x2), none, none, none, none, none], [], 0, 0)) rfl (T_Valley_canBeSung (by omega) (by decide) hc ?_)
    show sm_W sm_sh X (sm_C sm_sh X sm_P D) me_12 Q (4, [some (.ref 41), some (.int x1), some (.int x2), none, none, none, none, none], [.int r1], 0, 0) (I, J, sm_rf t d)
    refine sm_W.run (sm_C_mono D) 1 (G := True) (fr' := (if decide (¬ r1 = 0) = true then 7 else 5, [some (.ref 41), some (.int x1), some (.int x2), none, none, none, none, none], [], 0, 0)) (M' := (I, J, sm_rf t d)) rfl trivial (sm_W.iteD h (fun hc h => ?_) (fun hc h => ?_))
    · refine sm_W.run (sm_C_mono D) 4 (G := True) (fr' := (11, [some (.ref 41), some (.int x1), some (.int x2), some (.long (1 : Int64)), none, some (.int (0 : Int32)), none, none], [], 0, 0)) (M' := (I, J, sm_rf t d)) rfl trivial ?_
      exact (G_Choir_countCasts_11 hD (by decide) hQ sd_fu _ _ _ _ h)
    · refine sm_W.run (sm_C_mono D) 1 (G := True) (fr' := (6, [some (.ref 41), some (.int x1), some (.int x2), none, none, none, none, none], [.long (0 : Int64)], 0, 0)) (M' := (I, J, sm_rf t d)) rfl trivial ?_
      cases h
      exact sm_W.ret (sm_C_mono D) rfl hQ
theorem T_Choir_countCasts {X : Nat × (Nat → Int32)} {t d D : Nat} {Q : sm_Q} {I : sm_MI} {J : sm_MJ} {p0 : Nat} {x1 : Int32} {x2 : Int32} {rz : Int64}
    (hD : 3 ≤ D) (hp : (p0 = 21) ∨ (p0 = 41)) (h : F_Choir_countCasts p0 x1 x2 I = some (rz)) (hQ : Q (.inl (some (.long rz))) (I, J, sm_rf t d)) : sm_C sm_sh X sm_P D 12 [.ref p0, .int x1, .int x2] (I, J, sm_rf t d) Q := by
  cases D with
  | zero => omega
  | succ D => exact sm_C.of (me := me_12) (L := [some (.ref p0), some (.int x1), some (.int x2), none, none, none, none, none]) rfl rfl rfl (sm_W.forget (L' := [some (.ref p0), some (.int x1), some (.int x2), none, none, none, none, none]) ⟨rfl, ⟨rfl, ⟨rfl, trivial⟩⟩⟩ (G_Choir_countCasts (by omega) hp h hQ))
