/-! ===== printed by wip/gen/emit_parts.py: what the methods compute ===== -/
-- 76 Tape_numberBetween
noncomputable def F_Tape_numberBetween_11B (k11 : Int32 → Int32 → Int32 → Option (Int32)) (x2 : Int32) (x3 : Int32) (x4 : Int32) (I : sm_MI) : Option (Int32) :=
  if x2 ≤ x4 then
    some (((10000 : Int32) + x3))
  else
    sd_q1 (F_Tape_byteAt x4 I) fun r1 =>
    sd_lt (((x3 * (10 : Int32)) + r1) - (48 : Int32)) fun a2 =>
    k11 x2 a2 (x4 + (1 : Int32))
noncomputable def F_Tape_numberBetween_11 (I : sm_MI) (n : Nat) : Int32 → Int32 → Int32 → Option (Int32) :=
  sd_fix (fun k x2 x3 x4 => F_Tape_numberBetween_11B k x2 x3 x4 I) (fun _ _ _ => none) n
noncomputable def F_Tape_numberBetween (x1 : Int32) (x2 : Int32) (I : sm_MI) : Option (Int32) :=
  if (x2 - x1) ≤ (4 : Int32) then
    F_Tape_numberBetween_11 I sd_fu x2 (0 : Int32) x1
  else
    some ((31 : Int32))
theorem G_Tape_numberBetween_11B {X : Nat × (Nat → Int32)} {t d D : Nat} {Q : sm_Q} {I : sm_MI} {J : sm_MJ} {k11 : Int32 → Int32 → Int32 → Option (Int32)} {x2 : Int32} {x3 : Int32} {x4 : Int32} {rz : Int32}
    (hD : 1 ≤ D) (h : F_Tape_numberBetween_11B k11 x2 x3 x4 I = some (rz)) (hQ : Q (.inl (some (.int rz))) (I, J, sm_rf t d)) (hk11 : ∀ (x2 : Int32) (x3 : Int32) (x4 : Int32), k11 x2 x3 x4 = some (rz) → sm_W sm_sh X (sm_C sm_sh X sm_P D) me_76 Q (11, [some (.ref 4), none, some (.int x2), some (.int x3), some (.int x4)], [], 0, 0) (I, J, sm_rf t d)) : sm_W sm_sh X (sm_C sm_sh X sm_P D) me_76 Q (11, [some (.ref 4), none, some (.int x2), some (.int x3), some (.int x4)], [], 0, 0) (I, J, sm_rf t d) := by
  unfold F_Tape_numberBetween_11B at h
  refine sm_W.run (sm_C_mono D) 3 (G := True) (fr' := (if decide (x2 ≤ x4) = true then 26 else 14, [some (.ref 4), none, some (.int x2), some (.int x3), some (.int x4)], [], 0, 0)) (M' := (I, J, sm_rf t d)) rfl trivial (sm_W.iteD h (fun hc h => ?_) (fun hc h => ?_))
  · refine sm_W.run (sm_C_mono D) 3 (G := True) (fr' := (29, [some (.ref 4), none, some (.int x2), some (.int x3), some (.int x4)], [.int ((10000 : Int32) + x3)], 0, 0)) (M' := (I, J, sm_rf t d)) rfl trivial ?_
    cases h
    exact sm_W.ret (sm_C_mono D) rfl hQ
  · refine sm_W.run (sm_C_mono D) 5 (G := True) (fr' := (19, [some (.ref 4), none, some (.int x2), some (.int x3), some (.int x4)], [.int x4, .ref 4, .int (x3 * (10 : Int32))], 0, 0)) (M' := (I, J, sm_rf t d)) rfl trivial ?_
    obtain ⟨r1, hc, h⟩ := sd_q1_go h
    refine sm_W.cal (sm_C_mono D) (y := 71) (as := [.ref 4, .int x4]) (fr' := (20, [some (.ref 4), none, some (.int x2), some (.int x3), some (.int x4)], [.int (x3 * (10 : Int32))], 0, 0)) rfl (T_Tape_byteAt (by omega) hc ?_)
    show sm_W sm_sh X (sm_C sm_sh X sm_P D) me_76 Q (20, [some (.ref 4), none, some (.int x2), some (.int x3), some (.int x4)], [.int r1, .int (x3 * (10 : Int32))], 0, 0) (I, J, sm_rf t d)
    refine sm_W.runL (sm_C_mono D) 4 (G := True) (e := (((x3 * (10 : Int32)) + r1) - (48 : Int32))) (fr' := fun a2 => (24, [some (.ref 4), none, some (.int x2), some (.int a2), some (.int x4)], [], 0, 0)) (M' := fun _ => (I, J, sm_rf t d)) rfl h trivial (fun a2 h => ?_)
    refine sm_W.run (sm_C_mono D) 2 (G := True) (fr' := (11, [some (.ref 4), none, some (.int x2), some (.int a2), some (.int (x4 + (1 : Int32)))], [], 0, 0)) (M' := (I, J, sm_rf t d)) rfl trivial ?_
    exact (hk11 _ _ _ h)
theorem G_Tape_numberBetween_11 {X : Nat × (Nat → Int32)} {t d D : Nat} {Q : sm_Q} {I : sm_MI} {J : sm_MJ} {rz : Int32}
    (hD : 1 ≤ D) (hQ : Q (.inl (some (.int rz))) (I, J, sm_rf t d))  : ∀ (n : Nat) (x2 : Int32) (x3 : Int32) (x4 : Int32), F_Tape_numberBetween_11 I n x2 x3 x4 = some (rz) → sm_W sm_sh X (sm_C sm_sh X sm_P D) me_76 Q (11, [some (.ref 4), none, some (.int x2), some (.int x3), some (.int x4)], [], 0, 0) (I, J, sm_rf t d) := by
  intro n
  induction n with
  | zero => intro x2 x3 x4 h; cases (show (none : Option (Int32)) = some (rz) from h)
  | succ n ih => intro x2 x3 x4 h; exact G_Tape_numberBetween_11B hD (show F_Tape_numberBetween_11B (F_Tape_numberBetween_11 I n) x2 x3 x4 I = some (rz) from h) hQ  ih
theorem G_Tape_numberBetween {X : Nat × (Nat → Int32)} {t d D : Nat} {Q : sm_Q} {I : sm_MI} {J : sm_MJ} {x1 : Int32} {x2 : Int32} {rz : Int32}
    (hD : 1 ≤ D) (h : F_Tape_numberBetween x1 x2 I = some (rz)) (hQ : Q (.inl (some (.int rz))) (I, J, sm_rf t d))  : sm_W sm_sh X (sm_C sm_sh X sm_P D) me_76 Q (0, [some (.ref 4), some (.int x1), some (.int x2), none, none], [], 0, 0) (I, J, sm_rf t d) := by
  unfold F_Tape_numberBetween at h
  refine sm_W.run (sm_C_mono D) 5 (G := True) (fr' := (if decide ((x2 - x1) ≤ (4 : Int32)) = true then 7 else 5, [some (.ref 4), some (.int x1), some (.int x2), none, none], [], 0, 0)) (M' := (I, J, sm_rf t d)) rfl trivial (sm_W.iteD h (fun hc h => ?_) (fun hc h => ?_))
  · refine sm_W.run (sm_C_mono D) 4 (G := True) (fr' := (11, [some (.ref 4), some (.int x1), some (.int x2), some (.int (0 : Int32)), some (.int x1)], [], 0, 0)) (M' := (I, J, sm_rf t d)) rfl trivial ?_
    exact sm_W.forget (L' := [some (.ref 4), none, some (.int x2), some (.int (0 : Int32)), some (.int x1)]) ⟨rfl, ⟨rfl, ⟨rfl, ⟨rfl, trivial⟩⟩⟩⟩ (G_Tape_numberBetween_11 hD hQ sd_fu _ _ _ h)
  · refine sm_W.run (sm_C_mono D) 1 (G := True) (fr' := (6, [some (.ref 4), some (.int x1), some (.int x2), none, none], [.int (31 : Int32)], 0, 0)) (M' := (I, J, sm_rf t d)) rfl trivial ?_
    cases h
    exact sm_W.ret (sm_C_mono D) rfl hQ
theorem T_Tape_numberBetween {X : Nat × (Nat → Int32)} {t d D : Nat} {Q : sm_Q} {I : sm_MI} {J : sm_MJ} {x1 : Int32} {x2 : Int32} {rz : Int32}
    (hD : 2 ≤ D) (h : F_Tape_numberBetween x1 x2 I = some (rz)) (hQ : Q (.inl (some (.int rz))) (I, J, sm_rf t d)) : sm_C sm_sh X sm_P D 76 [.ref 4, .int x1, .int x2] (I, J, sm_rf t d) Q := by
  cases D with
  | zero => omega
  | succ D => exact sm_C.of (me := me_76) (L := [some (.ref 4), some (.int x1), some (.int x2), none, none]) rfl rfl rfl (sm_W.forget (L' := [some (.ref 4), some (.int x1), some (.int x2), none, none]) ⟨rfl, ⟨rfl, ⟨rfl, trivial⟩⟩⟩ (G_Tape_numberBetween (by omega) h hQ))
-- 78 Tape_sameLetters
noncomputable def F_Tape_sameLetters_2B (k2 : Int32 → Int32 → Int32 → Int32 → Option (Int32)) (x1 : Int32) (x2 : Int32) (x3 : Int32) (x4 : Int32) (I : sm_MI) : Option (Int32) :=
  if x2 ≤ x4 then
    some ((1 : Int32))
  else
    if (130 : Int32) ≤ x4 then
      some ((1 : Int32))
    else
      if x4 < 0 then
        some ((0 : Int32))
      else
        sd_gu (sm_in x4 130 = true) <|
        sd_q1 (F_Tape_byteAt ((x3 + x4) - x1) I) fun r2 =>
        if (Int32.ofNat (sm_text.getD (Int32.toNatClampNeg x4) 0)) = r2 then
          k2 x1 x2 x3 (x4 + (1 : Int32))
        else
          some ((0 : Int32))
noncomputable def F_Tape_sameLetters_2 (I : sm_MI) (n : Nat) : Int32 → Int32 → Int32 → Int32 → Option (Int32) :=
  sd_fix (fun k x1 x2 x3 x4 => F_Tape_sameLetters_2B k x1 x2 x3 x4 I) (fun _ _ _ _ => none) n
noncomputable def F_Tape_sameLetters (x1 : Int32) (x2 : Int32) (x3 : Int32) (I : sm_MI) : Option (Int32) :=
  F_Tape_sameLetters_2 I sd_fu x1 x2 x3 x1
theorem G_Tape_sameLetters_2B {X : Nat × (Nat → Int32)} {t d D : Nat} {Q : sm_Q} {I : sm_MI} {J : sm_MJ} {k2 : Int32 → Int32 → Int32 → Int32 → Option (Int32)} {x1 : Int32} {x2 : Int32} {x3 : Int32} {x4 : Int32} {rz : Int32}
    (hD : 1 ≤ D) (h : F_Tape_sameLetters_2B k2 x1 x2 x3 x4 I = some (rz)) (hQ : Q (.inl (some (.int rz))) (I, J, sm_rf t d)) (hk2 : ∀ (x1 : Int32) (x2 : Int32) (x3 : Int32) (x4 : Int32), k2 x1 x2 x3 x4 = some (rz) → sm_W sm_sh X (sm_C sm_sh X sm_P D) me_78 Q (2, [some (.ref 4), some (.int x1), some (.int x2), some (.int x3), some (.int x4)], [], 0, 0) (I, J, sm_rf t d)) : sm_W sm_sh X (sm_C sm_sh X sm_P D) me_78 Q (2, [some (.ref 4), some (.int x1), some (.int x2), some (.int x3), some (.int x4)], [], 0, 0) (I, J, sm_rf t d) := by
  unfold F_Tape_sameLetters_2B at h
  refine sm_W.run (sm_C_mono D) 3 (G := True) (fr' := (if decide (x2 ≤ x4) = true then 26 else 5, [some (.ref 4), some (.int x1), some (.int x2), some (.int x3), some (.int x4)], [], 0, 0)) (M' := (I, J, sm_rf t d)) rfl trivial (sm_W.iteD h (fun hc h => ?_) (fun hc h => ?_))
  · refine sm_W.run (sm_C_mono D) 1 (G := True) (fr' := (27, [some (.ref 4), some (.int x1), some (.int x2), some (.int x3), some (.int x4)], [.int (1 : Int32)], 0, 0)) (M' := (I, J, sm_rf t d)) rfl trivial ?_
    cases h
    exact sm_W.ret (sm_C_mono D) rfl hQ
  · refine sm_W.run (sm_C_mono D) 4 (G := True) (fr' := (if decide ((130 : Int32) ≤ x4) = true then 26 else 9, [some (.ref 4), some (.int x1), some (.int x2), some (.int x3), some (.int x4)], [], 0, 0)) (M' := (I, J, sm_rf t d)) rfl trivial (sm_W.iteD h (fun hc h => ?_) (fun hc h => ?_))
    · refine sm_W.run (sm_C_mono D) 1 (G := True) (fr' := (27, [some (.ref 4), some (.int x1), some (.int x2), some (.int x3), some (.int x4)], [.int (1 : Int32)], 0, 0)) (M' := (I, J, sm_rf t d)) rfl trivial ?_
      cases h
      exact sm_W.ret (sm_C_mono D) rfl hQ
    · refine sm_W.run (sm_C_mono D) 2 (G := True) (fr' := (if decide (x4 < 0) = true then 22 else 11, [some (.ref 4), some (.int x1), some (.int x2), some (.int x3), some (.int x4)], [], 0, 0)) (M' := (I, J, sm_rf t d)) rfl trivial (sm_W.iteD h (fun hc h => ?_) (fun hc h => ?_))
      · refine sm_W.run (sm_C_mono D) 1 (G := True) (fr' := (23, [some (.ref 4), some (.int x1), some (.int x2), some (.int x3), some (.int x4)], [.int (0 : Int32)], 0, 0)) (M' := (I, J, sm_rf t d)) rfl trivial ?_
        cases h
        exact sm_W.ret (sm_C_mono D) rfl hQ
      · obtain ⟨g1, h⟩ := sd_gu_go h
        refine sm_W.run (sm_C_mono D) 9 (G := sm_in x4 130 = true ∧ True) (fr' := (20, [some (.ref 4), some (.int x1), some (.int x2), some (.int x3), some (.int x4)], [.int ((x3 + x4) - x1), .ref 4, .int (Int32.ofNat (sm_text.getD (Int32.toNatClampNeg x4) 0))], 0, 0)) (M' := (I, J, sm_rf t d)) rfl ⟨g1, trivial⟩ ?_
        obtain ⟨r2, hc, h⟩ := sd_q1_go h
        refine sm_W.cal (sm_C_mono D) (y := 71) (as := [.ref 4, .int ((x3 + x4) - x1)]) (fr' := (21, [some (.ref 4), some (.int x1), some (.int x2), some (.int x3), some (.int x4)], [.int (Int32.ofNat (sm_text.getD (Int32.toNatClampNeg x4) 0))], 0, 0)) rfl (T_Tape_byteAt (by omega) hc ?_)
        show sm_W sm_sh X (sm_C sm_sh X sm_P D) me_78 Q (21, [some (.ref 4), some (.int x1), some (.int x2), some (.int x3), some (.int x4)], [.int r2, .int (Int32.ofNat (sm_text.getD (Int32.toNatClampNeg x4) 0))], 0, 0) (I, J, sm_rf t d)
        refine sm_W.run (sm_C_mono D) 1 (G := True) (fr' := (if decide ((Int32.ofNat (sm_text.getD (Int32.toNatClampNeg x4) 0)) = r2) = true then 24 else 22, [some (.ref 4), some (.int x1), some (.int x2), some (.int x3), some (.int x4)], [], 0, 0)) (M' := (I, J, sm_rf t d)) rfl trivial (sm_W.iteD h (fun hc h => ?_) (fun hc h => ?_))
        · refine sm_W.run (sm_C_mono D) 2 (G := True) (fr' := (2, [some (.ref 4), some (.int x1), some (.int x2), some (.int x3), some (.int (x4 + (1 : Int32)))], [], 0, 0)) (M' := (I, J, sm_rf t d)) rfl trivial ?_
          exact (hk2 _ _ _ _ h)
        · refine sm_W.run (sm_C_mono D) 1 (G := True) (fr' := (23, [some (.ref 4), some (.int x1), some (.int x2), some (.int x3), some (.int x4)], [.int (0 : Int32)], 0, 0)) (M' := (I, J, sm_rf t d)) rfl trivial ?_
          cases h
          exact sm_W.ret (sm_C_mono D) rfl hQ
theorem G_Tape_sameLetters_2 {X : Nat × (Nat → Int32)} {t d D : Nat} {Q : sm_Q} {I : sm_MI} {J : sm_MJ} {rz : Int32}
    (hD : 1 ≤ D) (hQ : Q (.inl (some (.int rz))) (I, J, sm_rf t d))  : ∀ (n : Nat) (x1 : Int32) (x2 : Int32) (x3 : Int32) (x4 : Int32), F_Tape_sameLetters_2 I n x1 x2 x3 x4 = some (rz) → sm_W sm_sh X (sm_C sm_sh X sm_P D) me_78 Q (2, [some (.ref 4), some (.int x1), some (.int x2), some (.int x3), some (.int x4)], [], 0, 0) (I, J, sm_rf t d) := by
  intro n
  induction n with
  | zero => intro x1 x2 x3 x4 h; cases (show (none : Option (Int32)) = some (rz) from h)
  | succ n ih => intro x1 x2 x3 x4 h; exact G_Tape_sameLetters_2B hD (show F_Tape_sameLetters_2B (F_Tape_sameLetters_2 I n) x1 x2 x3 x4 I = some (rz) from h) hQ  ih
theorem G_Tape_sameLetters {X : Nat × (Nat → Int32)} {t d D : Nat} {Q : sm_Q} {I : sm_MI} {J : sm_MJ} {x1 : Int32} {x2 : Int32} {x3 : Int32} {rz : Int32}
    (hD : 1 ≤ D) (h : F_Tape_sameLetters x1 x2 x3 I = some (rz)) (hQ : Q (.inl (some (.int rz))) (I, J, sm_rf t d))  : sm_W sm_sh X (sm_C sm_sh X sm_P D) me_78 Q (0, [some (.ref 4), some (.int x1), some (.int x2), some (.int x3), none], [], 0, 0) (I, J, sm_rf t d) := by
  unfold F_Tape_sameLetters at h
  refine sm_W.run (sm_C_mono D) 2 (G := True) (fr' := (2, [some (.ref 4), some (.int x1), some (.int x2), some (.int x3), some (.int x1)], [], 0, 0)) (M' := (I, J, sm_rf t d)) rfl trivial ?_
  exact (G_Tape_sameLetters_2 hD hQ sd_fu _ _ _ _ h)
theorem T_Tape_sameLetters {X : Nat × (Nat → Int32)} {t d D : Nat} {Q : sm_Q} {I : sm_MI} {J : sm_MJ} {x1 : Int32} {x2 : Int32} {x3 : Int32} {rz : Int32}
    (hD : 2 ≤ D) (h : F_Tape_sameLetters x1 x2 x3 I = some (rz)) (hQ : Q (.inl (some (.int rz))) (I, J, sm_rf t d)) : sm_C sm_sh X sm_P D 78 [.ref 4, .int x1, .int x2, .int x3] (I, J, sm_rf t d) Q := by
  cases D with
  | zero => omega
  | succ D => exact sm_C.of (me := me_78) (L := [some (.ref 4), some (.int x1), some (.int x2), some (.int x3), none]) rfl rfl rfl (sm_W.forget (L' := [some (.ref 4), some (.int x1), some (.int x2), some (.int x3), none]) ⟨rfl, ⟨rfl, ⟨rfl, ⟨rfl, trivial⟩⟩⟩⟩ (G_Tape_sameLetters (by omega) h hQ))
-- 77 Tape_wordBetween
noncomputable def F_Tape_wordBetween_6B (k6 : Int32 → Int32 → Int32 → Int32 → Int32 → Option (Int32)) (x1 : Int32) (x2 : Int32) (x3 : Int32) (x4 : Int32) (x5 : Int32) (I : sm_MI) : Option (Int32) :=
  if (130 : Int32) ≤ x5 then
    some ((24 : Int32))
  else
    sd_gu (sm_in x5 130 = true) <|
    if ¬ (Int32.ofNat (sm_text.getD (Int32.toNatClampNeg x5) 0)) = (32 : Int32) then
      k6 x1 x2 x3 x4 (x5 + (1 : Int32))
    else
      if ¬ (x5 - x4) = (x2 - x1) then
        sd_lt (x5 + (1 : Int32)) fun a2 =>
        k6 x1 x2 (x3 + (1 : Int32)) a2 (x5 + (1 : Int32))
      else
        sd_q1 (F_Tape_sameLetters x4 x5 x1 I) fun r3 =>
        if r3 = 0 then
          sd_lt (x5 + (1 : Int32)) fun a4 =>
          k6 x1 x2 (x3 + (1 : Int32)) a4 (x5 + (1 : Int32))
        else
          some (x3)
noncomputable def F_Tape_wordBetween_6 (I : sm_MI) (n : Nat) : Int32 → Int32 → Int32 → Int32 → Int32 → Option (Int32) :=
  sd_fix (fun k x1 x2 x3 x4 x5 => F_Tape_wordBetween_6B k x1 x2 x3 x4 x5 I) (fun _ _ _ _ _ => none) n
noncomputable def F_Tape_wordBetween (x1 : Int32) (x2 : Int32) (I : sm_MI) : Option (Int32) :=
  F_Tape_wordBetween_6 I sd_fu x1 x2 (0 : Int32) (0 : Int32) (0 : Int32)
theorem G_Tape_wordBetween_6B {X : Nat × (Nat → Int32)} {t d D : Nat} {Q : sm_Q} {I : sm_MI} {J : sm_MJ} {k6 : Int32 → Int32 → Int32 → Int32 → Int32 → Option (Int32)} {x1 : Int32} {x2 : Int32} {x3 : Int32} {x4 : Int32} {x5 : Int32} {rz : Int32}
    (hD : 2 ≤ D) (h : F_Tape_wordBetween_6B k6 x1 x2 x3 x4 x5 I = some (rz)) (hQ : Q (.inl (some (.int rz))) (I, J, sm_rf t d)) (hk6 : ∀ (x1 : Int32) (x2 : Int32) (x3 : Int32) (x4 : Int32) (x5 : Int32), k6 x1 x2 x3 x4 x5 = some (rz) → sm_W sm_sh X (sm_C sm_sh X sm_P D) me_77 Q (6, [some (.ref 4), some (.int x1), some (.int x2), some (.int x3), some (.int x4), some (.int x5)], [], 0, 0) (I, J, sm_rf t d)) : sm_W sm_sh X (sm_C sm_sh X sm_P D) me_77 Q (6, [some (.ref 4), some (.int x1), some (.int x2), some (.int x3), some (.int x4), some (.int x5)], [], 0, 0) (I, J, sm_rf t d) := by
  unfold F_Tape_wordBetween_6B at h
  refine sm_W.run (sm_C_mono D) 4 (G := True) (fr' := (if decide ((130 : Int32) ≤ x5) = true then 37 else 10, [some (.ref 4), some (.int x1), some (.int x2), some (.int x3), some (.int x4), some (.int x5)], [], 0, 0)) (M' := (I, J, sm_rf t d)) rfl trivial (sm_W.iteD h (fun hc h => ?_) (fun hc h => ?_))
  · refine sm_W.run (sm_C_mono D) 1 (G := True) (fr' := (38, [some (.ref 4), some (.int x1), some (.int x2), some (.int x3), some (.int x4), some (.int x5)], [.int (24 : Int32)], 0, 0)) (M' := (I, J, sm_rf t d)) rfl trivial ?_
    cases h
    exact sm_W.ret (sm_C_mono D) rfl hQ
  · obtain ⟨g1, h⟩ := sd_gu_go h
    refine sm_W.run (sm_C_mono D) 5 (G := sm_in x5 130 = true ∧ True) (fr' := (if decide (¬ (Int32.ofNat (sm_text.getD (Int32.toNatClampNeg x5) 0)) = (32 : Int32)) = true then 35 else 15, [some (.ref 4), some (.int x1), some (.int x2), some (.int x3), some (.int x4), some (.int x5)], [], 0, 0)) (M' := (I, J, sm_rf t d)) rfl ⟨g1, trivial⟩ (sm_W.iteD h (fun hc h => ?_) (fun hc h => ?_))
    · refine sm_W.run (sm_C_mono D) 2 (G := True) (fr' := (6, [some (.ref 4), some (.int x1), some (.int x2), some (.int x3), some (.int x4), some (.int (x5 + (1 : Int32)))], [], 0, 0)) (M' := (I, J, sm_rf t d)) rfl trivial ?_
      exact (hk6 _ _ _ _ _ h)
    · refine sm_W.run (sm_C_mono D) 7 (G := True) (fr' := (if decide (¬ (x5 - x4) = (x2 - x1)) = true then 30 else 22, [some (.ref 4), some (.int x1), some (.int x2), some (.int x3), some (.int x4), some (.int x5)], [], 0, 0)) (M' := (I, J, sm_rf t d)) rfl trivial (sm_W.iteD h (fun hc h => ?_) (fun hc h => ?_))
      · refine sm_W.runL (sm_C_mono D) 5 (G := True) (e := (x5 + (1 : Int32))) (fr' := fun a2 => (35, [some (.ref 4), some (.int x1), some (.int x2), some (.int (x3 + (1 : Int32))), some (.int a2), some (.int x5)], [], 0, 0)) (M' := fun _ => (I, J, sm_rf t d)) rfl h trivial (fun a2 h => ?_)
        refine sm_W.run (sm_C_mono D) 2 (G := True) (fr' := (6, [some (.ref 4), some (.int x1), some (.int x2), some (.int (x3 + (1 : Int32))), some (.int a2), some (.int (x5 + (1 : Int32)))], [], 0, 0)) (M' := (I, J, sm_rf t d)) rfl trivial ?_
        exact (hk6 _ _ _ _ _ h)
      · refine sm_W.run (sm_C_mono D) 4 (G := True) (fr' := (26, [some (.ref 4), some (.int x1), some (.int x2), some (.int x3), some (.int x4), some (.int x5)], [.int x1, .int x5, .int x4, .ref 4], 0, 0)) (M' := (I, J, sm_rf t d)) rfl trivial ?_
        obtain ⟨r3, hc, h⟩ := sd_q1_go h
        refine sm_W.cal (sm_C_mono D) (y := 78) (as := [.ref 4, .int x4, .int x5, .int x1]) (fr' := (27, [some (.ref 4), some (.int x1), some (.int x2), some (.int x3), some (.int x4), some (.int x5)], [], 0, 0)) rfl (T_Tape_sameLetters (by omega) hc ?_)
        show sm_W sm_sh X (sm_C sm_sh X sm_P D) me_77 Q (27, [some (.ref 4), some (.int x1), some (.int x2), some (.int x3), some (.int x4), some (.int x5)], [.int r3], 0, 0) (I, J, sm_rf t d)
        refine sm_W.run (sm_C_mono D) 1 (G := True) (fr' := (if decide (r3 = 0) = true then 30 else 28, [some (.ref 4), some (.int x1), some (.int x2), some (.int x3), some (.int x4), some (.int x5)], [], 0, 0)) (M' := (I, J, sm_rf t d)) rfl trivial (sm_W.iteD h (fun hc h => ?_) (fun hc h => ?_))
        · refine sm_W.runL (sm_C_mono D) 5 (G := True) (e := (x5 + (1 : Int32))) (fr' := fun a4 => (35, [some (.ref 4), some (.int x1), some (.int x2), some (.int (x3 + (1 : Int32))), some (.int a4), some (.int x5)], [], 0, 0)) (M' := fun _ => (I, J, sm_rf t d)) rfl h trivial (fun a4 h => ?_)
          refine sm_W.run (sm_C_mono D) 2 (G := True) (fr' := (6, [some (.ref 4), some (.int x1), some (.int x2), some (.int (x3 + (1 : Int32))), some (.int a4), some (.int (x5 + (1 : Int32)))], [], 0, 0)) (M' := (I, J, sm_rf t d)) rfl trivial ?_
          exact (hk6 _ _ _ _ _ h)
        · refine sm_W.run (sm_C_mono D) 1 (G := True) (fr' := (29, [some (.ref 4), some (.int x1), some (.int x2), some (.int x3), some (.int x4), some (.int x5)], [.int x3], 0, 0)) (M' := (I, J, sm_rf t d)) rfl trivial ?_
          cases h
          exact sm_W.ret (sm_C_mono D) rfl hQ
theorem G_Tape_wordBetween_6 {X : Nat × (Nat → Int32)} {t d D : Nat} {Q : sm_Q} {I : sm_MI} {J : sm_MJ} {rz : Int32}
    (hD : 2 ≤ D) (hQ : Q (.inl (some (.int rz))) (I, J, sm_rf t d))  : ∀ (n : Nat) (x1 : Int32) (x2 : Int32) (x3 : Int32) (x4 : Int32) (x5 : Int32), F_Tape_wordBetween_6 I n x1 x2 x3 x4 x5 = some (rz) → sm_W sm_sh X (sm_C sm_sh X sm_P D) me_77 Q (6, [some (.ref 4), some (.int x1), some (.int x2), some (.int x3), some (.int x4), some (.int x5)], [], 0, 0) (I, J, sm_rf t d) := by
  intro n
  induction n with
  | zero => intro x1 x2 x3 x4 x5 h; cases (show (none : Option (Int32)) = some (rz) from h)
  | succ n ih => intro x1 x2 x3 x4 x5 h; exact G_Tape_wordBetween_6B hD (show F_Tape_wordBetween_6B (F_Tape_wordBetween_6 I n) x1 x2 x3 x4 x5 I = some (rz) from h) hQ  ih
theorem G_Tape_wordBetween {X : Nat × (Nat → Int32)} {t d D : Nat} {Q : sm_Q} {I : sm_MI} {J : sm_MJ} {x1 : Int32} {x2 : Int32} {rz : Int32}
    (hD : 2 ≤ D) (h : F_Tape_wordBetween x1 x2 I = some (rz)) (hQ : Q (.inl (some (.int rz))) (I, J, sm_rf t d))  : sm_W sm_sh X (sm_C sm_sh X sm_P D) me_77 Q (0, [some (.ref 4), some (.int x1), some (.int x2), none, none, none], [], 0, 0) (I, J, sm_rf t d) := by
  unfold F_Tape_wordBetween at h
  refine sm_W.run (sm_C_mono D) 6 (G := True) (fr' := (6, [some (.ref 4), some (.int x1), some (.int x2), some (.int (0 : Int32)), some (.int (0 : Int32)), some (.int (0 : Int32))], [], 0, 0)) (M' := (I, J, sm_rf t d)) rfl trivial ?_
  exact (G_Tape_wordBetween_6 hD hQ sd_fu _ _ _ _ _ h)
theorem T_Tape_wordBetween {X : Nat × (Nat → Int32)} {t d D : Nat} {Q : sm_Q} {I : sm_MI} {J : sm_MJ} {x1 : Int32} {x2 : Int32} {rz : Int32}
    (hD : 3 ≤ D) (h : F_Tape_wordBetween x1 x2 I = some (rz)) (hQ : Q (.inl (some (.int rz))) (I, J, sm_rf t d)) : sm_C sm_sh X sm_P D 77 [.ref 4, .int x1, .int x2] (I, J, sm_rf t d) Q := by
  cases D with
  | zero => omega
  | succ D => exact sm_C.of (me := me_77) (L := [some (.ref 4), some (.int x1), some (.int x2), none, none, none]) rfl rfl rfl (sm_W.forget (L' := [some (.ref 4), some (.int x1), some (.int x2), none, none, none]) ⟨rfl, ⟨rfl, ⟨rfl, trivial⟩⟩⟩ (G_Tape_wordBetween (by omega) h hQ))
-- 75 Tape_kindBetween
noncomputable def F_Tape_kindBetween (x1 : Int32) (x2 : Int32) (I : sm_MI) : Option (Int32) :=
  sd_q1 (F_Tape_byteAt x1 I) fun r1 =>
  sd_q1 (F_Tape_isLetter r1) fun r2 =>
  if r2 = 0 then
    sd_q1 (F_Tape_isDigit r1) fun r3 =>
    if r3 = 0 then
      if r1 = (40 : Int32) then
        some (((1000 : Int32) + r1))
      else if r1 = (41 : Int32) then
        some (((1000 : Int32) + r1))
      else if r1 = (42 : Int32) then
        some (((1000 : Int32) + r1))
      else if r1 = (43 : Int32) then
        some (((1000 : Int32) + r1))
      else if r1 = (44 : Int32) then
        some ((32 : Int32))
      else if r1 = (45 : Int32) then
        some (((1000 : Int32) + r1))
      else if r1 = (46 : Int32) then
        some ((32 : Int32))
      else if r1 = (47 : Int32) then
        some (((1000 : Int32) + r1))
      else if r1 = (48 : Int32) then
        some ((32 : Int32))
      else if r1 = (49 : Int32) then
        some ((32 : Int32))
      else if r1 = (50 : Int32) then
        some ((32 : Int32))
      else if r1 = (51 : Int32) then
        some ((32 : Int32))
      else if r1 = (52 : Int32) then
        some ((32 : Int32))
      else if r1 = (53 : Int32) then
        some ((32 : Int32))
      else if r1 = (54 : Int32) then
        some ((32 : Int32))
      else if r1 = (55 : Int32) then
        some ((32 : Int32))
      else if r1 = (56 : Int32) then
        some ((32 : Int32))
      else if r1 = (57 : Int32) then
        some ((32 : Int32))
      else if r1 = (58 : Int32) then
        some ((32 : Int32))
      else if r1 = (59 : Int32) then
        some (((1000 : Int32) + r1))
      else if r1 = (60 : Int32) then
        some (((1000 : Int32) + r1))
      else if r1 = (61 : Int32) then
        some (((1000 : Int32) + r1))
      else 
        some ((32 : Int32))
    else
      sd_q1 (F_Tape_numberBetween x1 x2 I) fun r4 =>
      some (r4)
  else
    sd_q1 (F_Tape_wordBetween x1 x2 I) fun r5 =>
    some (r5)
theorem G_Tape_kindBetween {X : Nat × (Nat → Int32)} {t d D : Nat} {Q : sm_Q} {I : sm_MI} {J : sm_MJ} {x1 : Int32} {x2 : Int32} {rz : Int32}
    (hD : 3 ≤ D) (h : F_Tape_kindBetween x1 x2 I = some (rz)) (hQ : Q (.inl (some (.int rz))) (I, J, sm_rf t d))  : sm_W sm_sh X (sm_C sm_sh X sm_P D) me_75 Q (0, [some (.ref 4), some (.int x1), some (.int x2), none], [], 0, 0) (I, J, sm_rf t d) := by
  unfold F_Tape_kindBetween at h
  refine sm_W.run (sm_C_mono D) 2 (G := True) (fr' := (2, [some (.ref 4), some (.int x1), some (.int x2), none], [.int x1, .ref 4], 0, 0)) (M' := (I, J, sm_rf t d)) rfl trivial ?_
  obtain ⟨r1, hc, h⟩ := sd_q1_go h
  refine sm_W.cal (sm_C_mono D) (y := 71) (as := [.ref 4, .int x1]) (fr' := (3, [some (.ref 4), some (.int x1), some (.int x2), none], [], 0, 0)) rfl (T_Tape_byteAt (by omega) hc ?_)
  show sm_W sm_sh X (sm_C sm_sh X sm_P D) me_75 Q (3, [some (.ref 4), some (.int x1), some (.int x2), none], [.int r1], 0, 0) (I, J, sm_rf t d)
  refine sm_W.run (sm_C_mono D) 2 (G := True) (fr' := (5, [some (.ref 4), some (.int x1), some (.int x2), some (.int r1)], [.int r1], 0, 0)) (M' := (I, J, sm_rf t d)) rfl trivial ?_
  obtain ⟨r2, hc, h⟩ := sd_q1_go h
  refine sm_W.cal (sm_C_mono D) (y := 72) (as := [.int r1]) (fr' := (6, [some (.ref 4), some (.int x1), some (.int x2), some (.int r1)], [], 0, 0)) rfl (T_Tape_isLetter (by omega) hc ?_)
  show sm_W sm_sh X (sm_C sm_sh X sm_P D) me_75 Q (6, [some (.ref 4), some (.int x1), some (.int x2), some (.int r1)], [.int r2], 0, 0) (I, J, sm_rf t d)
  refine sm_W.run (sm_C_mono D) 1 (G := True) (fr' := (if decide (r2 = 0) = true then 12 else 7, [some (.ref 4), some (.int x1), some (.int x2), some (.int r1)], [], 0, 0)) (M' := (I, J, sm_rf t d)) rfl trivial (sm_W.iteD h (fun hc h => ?_) (fun hc h => ?_))
  · refine sm_W.run (sm_C_mono D) 1 (G := True) (fr' := (13, [some (.ref 4), some (.int x1), some (.int x2), some (.int r1)], [.int r1], 0, 0)) (M' := (I, J, sm_rf t d)) rfl trivial ?_
    obtain ⟨r3, hc, h⟩ := sd_q1_go h
    refine sm_W.cal (sm_C_mono D) (y := 73) (as := [.int r1]) (fr' := (14, [some (.ref 4), some (.int x1), some (.int x2), some (.int r1)], [], 0, 0)) rfl (T_Tape_isDigit (by omega) hc ?_)
    show sm_W sm_sh X (sm_C sm_sh X sm_P D) me_75 Q (14, [some (.ref 4), some (.int x1), some (.int x2), some (.int r1)], [.int r3], 0, 0) (I, J, sm_rf t d)
    refine sm_W.run (sm_C_mono D) 1 (G := True) (fr' := (if decide (r3 = 0) = true then 20 else 15, [some (.ref 4), some (.int x1), some (.int x2), some (.int r1)], [], 0, 0)) (M' := (I, J, sm_rf t d)) rfl trivial (sm_W.iteD h (fun hc h => ?_) (fun hc h => ?_))
    · refine sm_W.run (sm_C_mono D) 2 (G := True) (fr' := (sm_sw (Int32.toInt r1) (40) [22, 22, 22, 22, 26, 22, 26, 22, 26, 26, 26, 26, 26, 26, 26, 26, 26, 26, 26, 22, 22, 22] 26, [some (.ref 4), some (.int x1), some (.int x2), some (.int r1)], [], 0, 0)) (M' := (I, J, sm_rf t d)) rfl trivial ?_
      rw [sd_sw_eq]
      refine sm_W.swS (c := (40 : Int32)) (by decide) h (fun h => ?_) (fun h => ?_)
      · refine sm_W.run (sm_C_mono D) 3 (G := True) (fr' := (25, [some (.ref 4), some (.int x1), some (.int x2), some (.int r1)], [.int ((1000 : Int32) + r1)], 0, 0)) (M' := (I, J, sm_rf t d)) rfl trivial ?_
        cases h
        exact sm_W.ret (sm_C_mono D) rfl hQ
      refine sm_W.swS (c := (41 : Int32)) (by decide) h (fun h => ?_) (fun h => ?_)
      · refine sm_W.run (sm_C_mono D) 3 (G := True) (fr' := (25, [some (.ref 4), some (.int x1), some (.int x2), some (.int r1)], [.int ((1000 : Int32) + r1)], 0, 0)) (M' := (I, J, sm_rf t d)) rfl trivial ?_
        cases h
        exact sm_W.ret (sm_C_mono D) rfl hQ
      refine sm_W.swS (c := (42 : Int32)) (by decide) h (fun h => ?_) (fun h => ?_)
      · refine sm_W.run (sm_C_mono D) 3 (G := True) (fr' := (25, [some (.ref 4), some (.int x1), some (.int x2), some (.int r1)], [.int ((1000 : Int32) + r1)], 0, 0)) (M' := (I, J, sm_rf t d)) rfl trivial ?_
        cases h
        exact sm_W.ret (sm_C_mono D) rfl hQ
      refine sm_W.swS (c := (43 : Int32)) (by decide) h (fun h => ?_) (fun h => ?_)
      · refine sm_W.run (sm_C_mono D) 3 (G := True) (fr' := (25, [some (.ref 4), some (.int x1), some (.int x2), some (.int r1)], [.int ((1000 : Int32) + r1)], 0, 0)) (M' := (I, J, sm_rf t d)) rfl trivial ?_
        cases h
        exact sm_W.ret (sm_C_mono D) rfl hQ
      refine sm_W.swS (c := (44 : Int32)) (by decide) h (fun h => ?_) (fun h => ?_)
      · refine sm_W.run (sm_C_mono D) 1 (G := True) (fr' := (27, [some (.ref 4), some (.int x1), some (.int x2), some (.int r1)], [.int (32 : Int32)], 0, 0)) (M' := (I, J, sm_rf t d)) rfl trivial ?_
        cases h
        exact sm_W.ret (sm_C_mono D) rfl hQ
      refine sm_W.swS (c := (45 : Int32)) (by decide) h (fun h => ?_) (fun h => ?_)
      · refine sm_W.run (sm_C_mono D) 3 (G := True) (fr' := (25, [some (.ref 4), some (.int x1), some (.int x2), some (.int r1)], [.int ((1000 : Int32) + r1)], 0, 0)) (M' := (I, J, sm_rf t d)) rfl trivial ?_
        cases h
        exact sm_W.ret (sm_C_mono D) rfl hQ
      refine sm_W.swS (c := (46 : Int32)) (by decide) h (fun h => ?_) (fun h => ?_)
      · refine sm_W.run (sm_C_mono D) 1 (G := True) (fr' := (27, [some (.ref 4), some (.int x1), some (.int x2), some (.int r1)], [.int (32 : Int32)], 0, 0)) (M' := (I, J, sm_rf t d)) rfl trivial ?_
        cases h
        exact sm_W.ret (sm_C_mono D) rfl hQ
      refine sm_W.swS (c := (47 : Int32)) (by decide) h (fun h => ?_) (fun h => ?_)
      · refine sm_W.run (sm_C_mono D) 3 (G := True) (fr' := (25, [some (.ref 4), some (.int x1), some (.int x2), some (.int r1)], [.int ((1000 : Int32) + r1)], 0, 0)) (M' := (I, J, sm_rf t d)) rfl trivial ?_
        cases h
        exact sm_W.ret (sm_C_mono D) rfl hQ
      refine sm_W.swS (c := (48 : Int32)) (by decide) h (fun h => ?_) (fun h => ?_)
      · refine sm_W.run (sm_C_mono D) 1 (G := True) (fr' := (27, [some (.ref 4), some (.int x1), some (.int x2), some (.int r1)], [.int (32 : Int32)], 0, 0)) (M' := (I, J, sm_rf t d)) rfl trivial ?_
        cases h
        exact sm_W.ret (sm_C_mono D) rfl hQ
      refine sm_W.swS (c := (49 : Int32)) (by decide) h (fun h => ?_) (fun h => ?_)
      · refine sm_W.run (sm_C_mono D) 1 (G := True) (fr' := (27, [some (.ref 4), some (.int x1), some (.int x2), some (.int r1)], [.int (32 : Int32)], 0, 0)) (M' := (I, J, sm_rf t d)) rfl trivial ?_
        cases h
        exact sm_W.ret (sm_C_mono D) rfl hQ
      refine sm_W.swS (c := (50 : Int32)) (by decide) h (fun h => ?_) (fun h => ?_)
      · refine sm_W.run (sm_C_mono D) 1 (G := True) (fr' := (27, [some (.ref 4), some (.int x1), some (.int x2), some (.int r1)], [.int (32 : Int32)], 0, 0)) (M' := (I, J, sm_rf t d)) rfl trivial ?_
        cases h
        exact sm_W.ret (sm_C_mono D) rfl hQ
      refine sm_W.swS (c := (51 : Int32)) (by decide) h (fun h => ?_) (fun h => ?_)
      · refine sm_W.run (sm_C_mono D) 1 (G := True) (fr' := (27, [some (.ref 4), some (.int x1), some (.int x2), some (.int r1)], [.int (32 : Int32)], 0, 0)) (M' := (I, J, sm_rf t d)) rfl trivial ?_
        cases h
        exact sm_W.ret (sm_C_mono D) rfl hQ
      refine sm_W.swS (c := (52 : Int32)) (by decide) h (fun h => ?_) (fun h => ?_)
      · refine sm_W.run (sm_C_mono D) 1 (G := True) (fr' := (27, [some (.ref 4), some (.int x1), some (.int x2), some (.int r1)], [.int (32 : Int32)], 0, 0)) (M' := (I, J, sm_rf t d)) rfl trivial ?_
        cases h
        exact sm_W.ret (sm_C_mono D) rfl hQ
      refine sm_W.swS (c := (53 : Int32)) (by decide) h (fun h => ?_) (fun h => ?_)
      · refine sm_W.run (sm_C_mono D) 1 (G := True) (fr' := (27, [some (.ref 4), some (.int x1), some (.int x2), some (.int r1)], [.int (32 : Int32)], 0, 0)) (M' := (I, J, sm_rf t d)) rfl trivial ?_
        cases h
        exact sm_W.ret (sm_C_mono D) rfl hQ
      refine sm_W.swS (c := (54 : Int32)) (by decide) h (fun h => ?_) (fun h => ?_)
      · refine sm_W.run (sm_C_mono D) 1 (G := True) (fr' := (27, [some (.ref 4), some (.int x1), some (.int x2), some (.int r1)], [.int (32 : Int32)], 0, 0)) (M' := (I, J, sm_rf t d)) rfl trivial ?_
        cases h
        exact sm_W.ret (sm_C_mono D) rfl hQ
      refine sm_W.swS (c := (55 : Int32)) (by decide) h (fun h => ?_) (fun h => ?_)
      · refine sm_W.run (sm_C_mono D) 1 (G := True) (fr' := (27, [some (.ref 4), some (.int x1), some (.int x2), some (.int r1)], [.int (32 : Int32)], 0, 0)) (M' := (I, J, sm_rf t d)) rfl trivial ?_
        cases h
        exact sm_W.ret (sm_C_mono D) rfl hQ
      refine sm_W.swS (c := (56 : Int32)) (by decide) h (fun h => ?_) (fun h => ?_)
      · refine sm_W.run (sm_C_mono D) 1 (G := True) (fr' := (27, [some (.ref 4), some (.int x1), some (.int x2), some (.int r1)], [.int (32 : Int32)], 0, 0)) (M' := (I, J, sm_rf t d)) rfl trivial ?_
        cases h
        exact sm_W.ret (sm_C_mono D) rfl hQ
      refine sm_W.swS (c := (57 : Int32)) (by decide) h (fun h => ?_) (fun h => ?_)
      · refine sm_W.run (sm_C_mono D) 1 (G := True) (fr' := (27, [some (.ref 4), some (.int x1), some (.int x2), some (.int r1)], [.int (32 : Int32)], 0, 0)) (M' := (I, J, sm_rf t d)) rfl trivial ?_
        cases h
        exact sm_W.ret (sm_C_mono D) rfl hQ
      refine sm_W.swS (c := (58 : Int32)) (by decide) h (fun h => ?_) (fun h => ?_)
      · refine sm_W.run (sm_C_mono D) 1 (G := True) (fr' := (27, [some (.ref 4), some (.int x1), some (.int x2), some (.int r1)], [.int (32 : Int32)], 0, 0)) (M' := (I, J, sm_rf t d)) rfl trivial ?_
        cases h
        exact sm_W.ret (sm_C_mono D) rfl hQ
      refine sm_W.swS (c := (59 : Int32)) (by decide) h (fun h => ?_) (fun h => ?_)
      · refine sm_W.run (sm_C_mono D) 3 (G := True) (fr' := (25, [some (.ref 4), some (.int x1), some (.int x2), some (.int r1)], [.int ((1000 : Int32) + r1)], 0, 0)) (M' := (I, J, sm_rf t d)) rfl trivial ?_
        cases h
        exact sm_W.ret (sm_C_mono D) rfl hQ
      refine sm_W.swS (c := (60 : Int32)) (by decide) h (fun h => ?_) (fun h => ?_)
      · refine sm_W.run (sm_C_mono D) 3 (G := True) (fr' := (25, [some (.ref 4), some (.int x1), some (.int x2), some (.int r1)], [.int ((1000 : Int32) + r1)], 0, 0)) (M' := (I, J, sm_rf t d)) rfl trivial ?_
        cases h
        exact sm_W.ret (sm_C_mono D) rfl hQ
      refine sm_W.swS (c := (61 : Int32)) (by decide) h (fun h => ?_) (fun h => ?_)
      · refine sm_W.run (sm_C_mono D) 3 (G := True) (fr' := (25, [some (.ref 4), some (.int x1), some (.int x2), some (.int r1)], [.int ((1000 : Int32) + r1)], 0, 0)) (M' := (I, J, sm_rf t d)) rfl trivial ?_
        cases h
        exact sm_W.ret (sm_C_mono D) rfl hQ
      refine sm_W.run (sm_C_mono D) 1 (G := True) (fr' := (27, [some (.ref 4), some (.int x1), some (.int x2), some (.int r1)], [.int (32 : Int32)], 0, 0)) (M' := (I, J, sm_rf t d)) rfl trivial ?_
      cases h
      exact sm_W.ret (sm_C_mono D) rfl hQ
    · refine sm_W.run (sm_C_mono D) 3 (G := True) (fr' := (18, [some (.ref 4), some (.int x1), some (.int x2), some (.int r1)], [.int x2, .int x1, .ref 4], 0, 0)) (M' := (I, J, sm_rf t d)) rfl trivial ?_
      obtain ⟨r4, hc, h⟩ := sd_q1_go h
      refine sm_W.cal (sm_C_mono D) (y := 76) (as := [.ref 4, .int x1, .int x2]) (fr' := (19, [some (.ref 4), some (.int x1), some (.int x2), some (.int r1)], [], 0, 0)) rfl (T_Tape_numberBetween (by omega) hc ?_)
      show sm_W sm_sh X (sm_C sm_sh X sm_P D) me_75 Q (19, [some (.ref 4), some (.int x1), some (.int x2), some (.int r1)], [.int r4], 0, 0) (I, J, sm_rf t d)
      cases h
      exact sm_W.ret (sm_C_mono D) rfl hQ
  · refine sm_W.run (sm_C_mono D) 3 (G := True) (fr' := (10, [some (.ref 4), some (.int x1), some (.int x2), some (.int r1)], [.int x2, .int x1, .ref 4], 0, 0)) (M' := (I, J, sm_rf t d)) rfl trivial ?_
    obtain ⟨r5, hc, h⟩ := sd_q1_go h
    refine sm_W.cal (sm_C_mono D) (y := 77) (as := [.ref 4, .int x1, .int x2]) (fr' := (11, [some (.ref 4), some (.int x1), some (.int x2), some (.int r1)], [], 0, 0)) rfl (T_Tape_wordBetween (by omega) hc ?_)
    show sm_W sm_sh X (sm_C sm_sh X sm_P D) me_75 Q (11, [some (.ref 4), some (.int x1), some (.int x2), some (.int r1)], [.int r5], 0, 0) (I, J, sm_rf t d)
    cases h
    exact sm_W.ret (sm_C_mono D) rfl hQ
theorem T_Tape_kindBetween {X : Nat × (Nat → Int32)} {t d D : Nat} {Q : sm_Q} {I : sm_MI} {J : sm_MJ} {x1 : Int32} {x2 : Int32} {rz : Int32}
    (hD : 4 ≤ D) (h : F_Tape_kindBetween x1 x2 I = some (rz)) (hQ : Q (.inl (some (.int rz))) (I, J, sm_rf t d)) : sm_C sm_sh X sm_P D 75 [.ref 4, .int x1, .int x2] (I, J, sm_rf t d) Q := by
  cases D with
  | zero => omega
  | succ D => exact sm_C.of (me := me_75) (L := [some (.ref 4), some (.int x1), some (.int x2), none]) rfl rfl rfl (sm_W.forget (L' := [some (.ref 4), some (.int x1), some (.int x2), none]) ⟨rfl, ⟨rfl, ⟨rfl, trivial⟩⟩⟩ (G_Tape_kindBetween (by omega) h hQ))
-- 69 Tape_scan
noncomputable def F_Tape_scan_10B (k10 : Int32 → sm_MI → Option (sm_MI)) (x2 : Int32) (I : sm_MI) : Option (sm_MI) :=
  if (I 4 5) ≤ x2 then
    some (I)
  else
    sd_q1 (F_Tape_byteAt x2 I) fun r1 =>
    if r1 = (32 : Int32) then
      k10 (x2 + (1 : Int32)) I
    else
      if ¬ r1 = (10 : Int32) then
        sd_q1 (F_Tape_endOfToken x2 I) fun r2 =>
        sd_q1 (F_Math_max (x2 + (1 : Int32)) r2) fun r3 =>
        sd_q1 (F_Tape_kindBetween x2 r3 I) fun r4 =>
        sd_q1 (F_Tape_keep r4 x2 I) fun I5 =>
        k10 r3 I5
      else
        k10 (x2 + (1 : Int32)) I
noncomputable def F_Tape_scan_10  (n : Nat) : Int32 → sm_MI → Option (sm_MI) :=
  sd_fix (fun k x2 I => F_Tape_scan_10B k x2 I) (fun _ _ => none) n
noncomputable def F_Tape_scan (x1 : Int32) (I : sm_MI) : Option (sm_MI) :=
  sd_lt (sd_up I 4 4 (0 : Int32)) fun I1 =>
  sd_q1 (F_Math_min x1 (700 : Int32)) fun r2 =>
  sd_lt (sd_up I1 4 5 r2) fun I3 =>
  F_Tape_scan_10 sd_fu (0 : Int32) I3
theorem G_Tape_scan_10B {X : Nat × (Nat → Int32)} {t d D : Nat} {Q : sm_Q} {I : sm_MI} {J : sm_MJ} {k10 : Int32 → sm_MI → Option (sm_MI)} {x2 : Int32} {Iz : sm_MI}
    (hD : 4 ≤ D) (h : F_Tape_scan_10B k10 x2 I = some (Iz)) (hQ : Q (.inl none) (Iz, J, sm_rf t d)) (hk10 : ∀ (x2 : Int32) (I : sm_MI), k10 x2 I = some (Iz) → sm_W sm_sh X (sm_C sm_sh X sm_P D) me_69 Q (10, [some (.ref 4), none, some (.int x2), none, none], [], 0, 0) (I, J, sm_rf t d)) : sm_W sm_sh X (sm_C sm_sh X sm_P D) me_69 Q (10, [some (.ref 4), none, some (.int x2), none, none], [], 0, 0) (I, J, sm_rf t d) := by
  unfold F_Tape_scan_10B at h
  refine sm_W.run (sm_C_mono D) 4 (G := True) (fr' := (if decide ((I 4 5) ≤ x2) = true then 44 else 14, [some (.ref 4), none, some (.int x2), none, none], [], 0, 0)) (M' := (I, J, sm_rf t d)) rfl trivial (sm_W.iteD h (fun hc h => ?_) (fun hc h => ?_))
  · cases h
    exact sm_W.ret (sm_C_mono D) rfl hQ
  · refine sm_W.run (sm_C_mono D) 2 (G := True) (fr' := (16, [some (.ref 4), none, some (.int x2), none, none], [.int x2, .ref 4], 0, 0)) (M' := (I, J, sm_rf t d)) rfl trivial ?_
    obtain ⟨r1, hc, h⟩ := sd_q1_go h
    refine sm_W.cal (sm_C_mono D) (y := 71) (as := [.ref 4, .int x2]) (fr' := (17, [some (.ref 4), none, some (.int x2), none, none], [], 0, 0)) rfl (T_Tape_byteAt (by omega) hc ?_)
    show sm_W sm_sh X (sm_C sm_sh X sm_P D) me_69 Q (17, [some (.ref 4), none, some (.int x2), none, none], [.int r1], 0, 0) (I, J, sm_rf t d)
    refine sm_W.run (sm_C_mono D) 4 (G := True) (fr' := (if decide (r1 = (32 : Int32)) = true then 24 else 21, [some (.ref 4), none, some (.int x2), some (.int r1), none], [], 0, 0)) (M' := (I, J, sm_rf t d)) rfl trivial (sm_W.iteD h (fun hc h => ?_) (fun hc h => ?_))
    · refine sm_W.run (sm_C_mono D) 3 (G := True) (fr' := (10, [some (.ref 4), none, some (.int (x2 + (1 : Int32))), some (.int r1), none], [], 0, 0)) (M' := (I, J, sm_rf t d)) rfl trivial ?_
      exact sm_W.forget (L' := [some (.ref 4), none, some (.int (x2 + (1 : Int32))), none, none]) ⟨rfl, ⟨rfl, trivial⟩⟩ (hk10 _ _ h)
    · refine sm_W.run (sm_C_mono D) 3 (G := True) (fr' := (if decide (¬ r1 = (10 : Int32)) = true then 26 else 24, [some (.ref 4), none, some (.int x2), some (.int r1), none], [], 0, 0)) (M' := (I, J, sm_rf t d)) rfl trivial (sm_W.iteD h (fun hc h => ?_) (fun hc h => ?_))
      · refine sm_W.run (sm_C_mono D) 5 (G := True) (fr' := (31, [some (.ref 4), none, some (.int x2), some (.int r1), none], [.int x2, .ref 4, .int (x2 + (1 : Int32))], 0, 0)) (M' := (I, J, sm_rf t d)) rfl trivial ?_
        obtain ⟨r2, hc, h⟩ := sd_q1_go h
        refine sm_W.cal (sm_C_mono D) (y := 74) (as := [.ref 4, .int x2]) (fr' := (32, [some (.ref 4), none, some (.int x2), some (.int r1), none], [.int (x2 + (1 : Int32))], 0, 0)) rfl (T_Tape_endOfToken (by omega) hc ?_)
        show sm_W sm_sh X (sm_C sm_sh X sm_P D) me_69 Q (32, [some (.ref 4), none, some (.int x2), some (.int r1), none], [.int r2, .int (x2 + (1 : Int32))], 0, 0) (I, J, sm_rf t d)
        obtain ⟨r3, hc, h⟩ := sd_q1_go h
        refine sm_W.cal (sm_C_mono D) (y := 269) (as := [.int (x2 + (1 : Int32)), .int r2]) (fr' := (33, [some (.ref 4), none, some (.int x2), some (.int r1), none], [], 0, 0)) rfl (T_Math_max (by omega) hc ?_)
        show sm_W sm_sh X (sm_C sm_sh X sm_P D) me_69 Q (33, [some (.ref 4), none, some (.int x2), some (.int r1), none], [.int r3], 0, 0) (I, J, sm_rf t d)
        refine sm_W.run (sm_C_mono D) 5 (G := True) (fr' := (38, [some (.ref 4), none, some (.int x2), some (.int r1), some (.int r3)], [.int r3, .int x2, .ref 4, .ref 4], 0, 0)) (M' := (I, J, sm_rf t d)) rfl trivial ?_
        obtain ⟨r4, hc, h⟩ := sd_q1_go h
        refine sm_W.cal (sm_C_mono D) (y := 75) (as := [.ref 4, .int x2, .int r3]) (fr' := (39, [some (.ref 4), none, some (.int x2), some (.int r1), some (.int r3)], [.ref 4], 0, 0)) rfl (T_Tape_kindBetween (by omega) hc ?_)
        show sm_W sm_sh X (sm_C sm_sh X sm_P D) me_69 Q (39, [some (.ref 4), none, some (.int x2), some (.int r1), some (.int r3)], [.int r4, .ref 4], 0, 0) (I, J, sm_rf t d)
        refine sm_W.run (sm_C_mono D) 1 (G := True) (fr' := (40, [some (.ref 4), none, some (.int x2), some (.int r1), some (.int r3)], [.int x2, .int r4, .ref 4], 0, 0)) (M' := (I, J, sm_rf t d)) rfl trivial ?_
        obtain ⟨I5, hc, h⟩ := sd_q1_go h
        refine sm_W.cal (sm_C_mono D) (y := 70) (as := [.ref 4, .int r4, .int x2]) (fr' := (41, [some (.ref 4), none, some (.int x2), some (.int r1), some (.int r3)], [], 0, 0)) rfl (T_Tape_keep (by omega) hc ?_)
        show sm_W sm_sh X (sm_C sm_sh X sm_P D) me_69 Q (41, [some (.ref 4), none, some (.int x2), some (.int r1), some (.int r3)], [], 0, 0) (I5, J, sm_rf t d)
        refine sm_W.run (sm_C_mono D) 3 (G := True) (fr' := (10, [some (.ref 4), none, some (.int r3), some (.int r1), some (.int r3)], [], 0, 0)) (M' := (I5, J, sm_rf t d)) rfl trivial ?_
        exact sm_W.forget (L' := [some (.ref 4), none, some (.int r3), none, none]) ⟨rfl, ⟨rfl, trivial⟩⟩ (hk10 _ _ h)
      · refine sm_W.run (sm_C_mono D) 3 (G := True) (fr' := (10, [some (.ref 4), none, some (.int (x2 + (1 : Int32))), some (.int r1), none], [], 0, 0)) (M' := (I, J, sm_rf t d)) rfl trivial ?_
        exact sm_W.forget (L' := [some (.ref 4), none, some (.int (x2 + (1 : Int32))), none, none]) ⟨rfl, ⟨rfl, trivial⟩⟩ (hk10 _ _ h)
theorem G_Tape_scan_10 {X : Nat × (Nat → Int32)} {t d D : Nat} {Q : sm_Q} {J : sm_MJ} {Iz : sm_MI}
    (hD : 4 ≤ D) (hQ : Q (.inl none) (Iz, J, sm_rf t d))  : ∀ (n : Nat) (x2 : Int32) (I : sm_MI), F_Tape_scan_10 n x2 I = some (Iz) → sm_W sm_sh X (sm_C sm_sh X sm_P D) me_69 Q (10, [some (.ref 4), none, some (.int x2), none, none], [], 0, 0) (I, J, sm_rf t d) := by
  intro n
  induction n with
  | zero => intro x2 I h; cases (show (none : Option (sm_MI)) = some (Iz) from h)
  | succ n ih => intro x2 I h; exact G_Tape_scan_10B hD (show F_Tape_scan_10B (F_Tape_scan_10 n) x2 I = some (Iz) from h) hQ  ih
theorem G_Tape_scan {X : Nat × (Nat → Int32)} {t d D : Nat} {Q : sm_Q} {I : sm_MI} {J : sm_MJ} {x1 : Int32} {Iz : sm_MI}
    (hD : 4 ≤ D) (h : F_Tape_scan x1 I = some (Iz)) (hQ : Q (.inl none) (Iz, J, sm_rf t d))  : sm_W sm_sh X (sm_C sm_sh X sm_P D) me_69 Q (0, [some (.ref 4), some (.int x1), none, none, none], [], 0, 0) (I, J, sm_rf t d) := by
  unfold F_Tape_scan at h
  refine sm_W.runL (sm_C_mono D) 3 (G := True) (e := (sd_up I 4 4 (0 : Int32))) (fr' := fun _ => (3, [some (.ref 4), some (.int x1), none, none, none], [], 0, 0)) (M' := fun I1 => (I1, J, sm_rf t d)) rfl h trivial (fun I1 h => ?_)
  refine sm_W.run (sm_C_mono D) 3 (G := True) (fr' := (6, [some (.ref 4), some (.int x1), none, none, none], [.int (700 : Int32), .int x1, .ref 4], 0, 0)) (M' := (I1, J, sm_rf t d)) rfl trivial ?_
  obtain ⟨r2, hc, h⟩ := sd_q1_go h
  refine sm_W.cal (sm_C_mono D) (y := 270) (as := [.int x1, .int (700 : Int32)]) (fr' := (7, [some (.ref 4), some (.int x1), none, none, none], [.ref 4], 0, 0)) rfl (T_Math_min (by omega) hc ?_)
  show sm_W sm_sh X (sm_C sm_sh X sm_P D) me_69 Q (7, [some (.ref 4), some (.int x1), none, none, none], [.int r2, .ref 4], 0, 0) (I1, J, sm_rf t d)
  refine sm_W.runL (sm_C_mono D) 1 (G := True) (e := (sd_up I1 4 5 r2)) (fr' := fun _ => (8, [some (.ref 4), some (.int x1), none, none, none], [], 0, 0)) (M' := fun I3 => (I3, J, sm_rf t d)) rfl h trivial (fun I3 h => ?_)
  refine sm_W.run (sm_C_mono D) 2 (G := True) (fr' := (10, [some (.ref 4), some (.int x1), some (.int (0 : Int32)), none, none], [], 0, 0)) (M' := (I3, J, sm_rf t d)) rfl trivial ?_
  exact sm_W.forget (L' := [some (.ref 4), none, some (.int (0 : Int32)), none, none]) ⟨rfl, ⟨rfl, trivial⟩⟩ (G_Tape_scan_10 hD hQ sd_fu _ _ h)
theorem T_Tape_scan {X : Nat × (Nat → Int32)} {t d D : Nat} {Q : sm_Q} {I : sm_MI} {J : sm_MJ} {x1 : Int32} {Iz : sm_MI}
    (hD : 5 ≤ D) (h : F_Tape_scan x1 I = some (Iz)) (hQ : Q (.inl none) (Iz, J, sm_rf t d)) : sm_C sm_sh X sm_P D 69 [.ref 4, .int x1] (I, J, sm_rf t d) Q := by
  cases D with
  | zero => omega
  | succ D => exact sm_C.of (me := me_69) (L := [some (.ref 4), some (.int x1), none, none, none]) rfl rfl rfl (sm_W.forget (L' := [some (.ref 4), some (.int x1), none, none, none]) ⟨rfl, ⟨rfl, trivial⟩⟩ (G_Tape_scan (by omega) h hQ))
-- 49 Rules_clear
noncomputable def F_Rules_clear_5B (p0 : Nat) (k5 : Int32 → sm_MI → Option (sm_MI)) (x1 : Int32) (I : sm_MI) : Option (sm_MI) :=
  if (4 : Int32) ≤ x1 then
    some (I)
  else
    sd_gu (sm_in x1 4 = true) <|
    sd_lt (sd_up I (p0 + 2) (Int32.toNatClampNeg x1) (0 : Int32)) fun I2 =>
    sd_gu (sm_in x1 4 = true) <|
    sd_lt (sd_up I2 (p0 + 3) (Int32.toNatClampNeg x1) (0 : Int32)) fun I4 =>
    k5 (x1 + (1 : Int32)) I4
noncomputable def F_Rules_clear_5 (p0 : Nat) (n : Nat) : Int32 → sm_MI → Option (sm_MI) :=
  sd_fix (fun k x1 I => F_Rules_clear_5B p0 k x1 I) (fun _ _ => none) n
noncomputable def F_Rules_clear (p0 : Nat) (I : sm_MI) : Option (sm_MI) :=
  sd_lt (sd_up I p0 1 (0 : Int32)) fun I1 =>
  F_Rules_clear_5 p0 sd_fu (0 : Int32) I1
theorem G_Rules_clear_5B {X : Nat × (Nat → Int32)} {t d D : Nat} {Q : sm_Q} {I : sm_MI} {J : sm_MJ} {p0 : Nat} {k5 : Int32 → sm_MI → Option (sm_MI)} {x1 : Int32} {Iz : sm_MI}
    (hD : 0 ≤ D) (hp : (p0 = 35) ∨ (p0 = 55)) (h : F_Rules_clear_5B p0 k5 x1 I = some (Iz)) (hQ : Q (.inl none) (Iz, J, sm_rf t d)) (hk5 : ∀ (x1 : Int32) (I : sm_MI), k5 x1 I = some (Iz) → sm_W sm_sh X (sm_C sm_sh X sm_P D) me_49 Q (5, [some (.ref p0), some (.int x1)], [], 0, 0) (I, J, sm_rf t d)) : sm_W sm_sh X (sm_C sm_sh X sm_P D) me_49 Q (5, [some (.ref p0), some (.int x1)], [], 0, 0) (I, J, sm_rf t d) := by
  unfold F_Rules_clear_5B at h
  rcases hp with rfl | rfl
  · skip
    refine sm_W.run (sm_C_mono D) 3 (G := True) (fr' := (if decide ((4 : Int32) ≤ x1) = true then 20 else 8, [some (.ref 35), some (.int x1)], [], 0, 0)) (M' := (I, J, sm_rf t d)) rfl trivial (sm_W.iteD h (fun hc h => ?_) (fun hc h => ?_))
    · cases h
      exact sm_W.ret (sm_C_mono D) rfl hQ
    · obtain ⟨g1, h⟩ := sd_gu_go h
      refine sm_W.runL (sm_C_mono D) 5 (G := sm_in x1 4 = true ∧ True) (e := (sd_up I (35 + 2) (Int32.toNatClampNeg x1) (0 : Int32))) (fr' := fun _ => (13, [some (.ref 35), some (.int x1)], [], 0, 0)) (M' := fun I2 => (I2, J, sm_rf t d)) rfl h ⟨g1, trivial⟩ (fun I2 h => ?_)
      obtain ⟨g3, h⟩ := sd_gu_go h
      refine sm_W.runL (sm_C_mono D) 5 (G := sm_in x1 4 = true ∧ True) (e := (sd_up I2 (35 + 3) (Int32.toNatClampNeg x1) (0 : Int32))) (fr' := fun _ => (18, [some (.ref 35), some (.int x1)], [], 0, 0)) (M' := fun I4 => (I4, J, sm_rf t d)) rfl h ⟨g3, trivial⟩ (fun I4 h => ?_)
      refine sm_W.run (sm_C_mono D) 2 (G := True) (fr' := (5, [some (.ref 35), some (.int (x1 + (1 : Int32)))], [], 0, 0)) (M' := (I4, J, sm_rf t d)) rfl trivial ?_
      exact (hk5 _ _ h)
  · skip
    refine sm_W.run (sm_C_mono D) 3 (G := True) (fr' := (if decide ((4 : Int32) ≤ x1) = true then 20 else 8, [some (.ref 55), some (.int x1)], [], 0, 0)) (M' := (I, J, sm_rf t d)) rfl trivial (sm_W.iteD h (fun hc h => ?_) (fun hc h => ?_))
    · cases h
      exact sm_W.ret (sm_C_mono D) rfl hQ
    · obtain ⟨g1, h⟩ := sd_gu_go h
      refine sm_W.runL (sm_C_mono D) 5 (G := sm_in x1 4 = true ∧ True) (e := (sd_up I (55 + 2) (Int32.toNatClampNeg x1) (0 : Int32))) (fr' := fun _ => (13, [some (.ref 55), some (.int x1)], [], 0, 0)) (M' := fun I2 => (I2, J, sm_rf t d)) rfl h ⟨g1, trivial⟩ (fun I2 h => ?_)
      obtain ⟨g3, h⟩ := sd_gu_go h
      refine sm_W.runL (sm_C_mono D) 5 (G := sm_in x1 4 = true ∧ True) (e := (sd_up I2 (55 + 3) (Int32.toNatClampNeg x1) (0 : Int32))) (fr' := fun _ => (18, [some (.ref 55), some (.int x1)], [], 0, 0)) (M' := fun I4 => (I4, J, sm_rf t d)) rfl h ⟨g3, trivial⟩ (fun I4 h => ?_)
      refine sm_W.run (sm_C_mono D) 2 (G := True) (fr' := (5, [some (.ref 55), some (.int (x1 + (1 : Int32)))], [], 0, 0)) (M' := (I4, J, sm_rf t d)) rfl trivial ?_
      exact (hk5 _ _ h)
theorem G_Rules_clear_5 {X : Nat × (Nat → Int32)} {t d D : Nat} {Q : sm_Q} {J : sm_MJ} {p0 : Nat} {Iz : sm_MI}
    (hD : 0 ≤ D) (hp : (p0 = 35) ∨ (p0 = 55)) (hQ : Q (.inl none) (Iz, J, sm_rf t d))  : ∀ (n : Nat) (x1 : Int32) (I : sm_MI), F_Rules_clear_5 p0 n x1 I = some (Iz) → sm_W sm_sh X (sm_C sm_sh X sm_P D) me_49 Q (5, [some (.ref p0), some (.int x1)], [], 0, 0) (I, J, sm_rf t d) := by
  intro n
  induction n with
  | zero => intro x1 I h; cases (show (none : Option (sm_MI)) = some (Iz) from h)
  | succ n ih => intro x1 I h; exact G_Rules_clear_5B hD hp (show F_Rules_clear_5B p0 (F_Rules_clear_5 p0 n) x1 I = some (Iz) from h) hQ  ih
theorem G_Rules_clear {X : Nat × (Nat → Int32)} {t d D : Nat} {Q : sm_Q} {I : sm_MI} {J : sm_MJ} {p0 : Nat} {Iz : sm_MI}
    (hD : 0 ≤ D) (hp : (p0 = 35) ∨ (p0 = 55)) (h : F_Rules_clear p0 I = some (Iz)) (hQ : Q (.inl none) (Iz, J, sm_rf t d))  : sm_W sm_sh X (sm_C sm_sh X sm_P D) me_49 Q (0, [some (.ref p0), none], [], 0, 0) (I, J, sm_rf t d) := by
  unfold F_Rules_clear at h
  rcases hp with rfl | rfl
  · skip
    refine sm_W.runL (sm_C_mono D) 3 (G := True) (e := (sd_up I 35 1 (0 : Int32))) (fr' := fun _ => (3, [some (.ref 35), none], [], 0, 0)) (M' := fun I1 => (I1, J, sm_rf t d)) rfl h trivial (fun I1 h => ?_)
    refine sm_W.run (sm_C_mono D) 2 (G := True) (fr' := (5, [some (.ref 35), some (.int (0 : Int32))], [], 0, 0)) (M' := (I1, J, sm_rf t d)) rfl trivial ?_
    exact (G_Rules_clear_5 hD (by decide) hQ sd_fu _ _ h)
  · skip
    refine sm_W.runL (sm_C_mono D) 3 (G := True) (e := (sd_up I 55 1 (0 : Int32))) (fr' := fun _ => (3, [some (.ref 55), none], [], 0, 0)) (M' := fun I1 => (I1, J, sm_rf t d)) rfl h trivial (fun I1 h => ?_)
    refine sm_W.run (sm_C_mono D) 2 (G := True) (fr' := (5, [some (.ref 55), some (.int (0 : Int32))], [], 0, 0)) (M' := (I1, J, sm_rf t d)) rfl trivial ?_
    exact (G_Rules_clear_5 hD (by decide) hQ sd_fu _ _ h)
theorem T_Rules_clear {X : Nat × (Nat → Int32)} {t d D : Nat} {Q : sm_Q} {I : sm_MI} {J : sm_MJ} {p0 : Nat} {Iz : sm_MI}
    (hD : 1 ≤ D) (hp : (p0 = 35) ∨ (p0 = 55)) (h : F_Rules_clear p0 I = some (Iz)) (hQ : Q (.inl none) (Iz, J, sm_rf t d)) : sm_C sm_sh X sm_P D 49 [.ref p0] (I, J, sm_rf t d) Q := by
  cases D with
  | zero => omega
  | succ D => exact sm_C.of (me := me_49) (L := [some (.ref p0), none]) rfl rfl rfl (sm_W.forget (L' := [some (.ref p0), none]) ⟨rfl, trivial⟩ (G_Rules_clear (by omega) hp h hQ))
-- 79 Valley_clear
noncomputable def F_Valley_clear_11B (p0 : Nat) (k11 : Int32 → sm_MI → Option (sm_MI)) (x1 : Int32) (I : sm_MI) : Option (sm_MI) :=
  if (20 : Int32) ≤ x1 then
    sd_q1 (F_Rules_clear (p0 + 14) I) fun I1 =>
    some (I1)
  else
    sd_gu (sm_in x1 20 = true) <|
    sd_lt (sd_up I (p0 + 6) (Int32.toNatClampNeg x1) (0 : Int32)) fun I3 =>
    sd_gu (sm_in x1 20 = true) <|
    sd_lt (sd_up I3 (p0 + 7) (Int32.toNatClampNeg x1) (0 : Int32)) fun I5 =>
    sd_gu (sm_in x1 20 = true) <|
    sd_lt (sd_up I5 (p0 + 11) (Int32.toNatClampNeg x1) (0 : Int32)) fun I7 =>
    k11 (x1 + (1 : Int32)) I7
noncomputable def F_Valley_clear_11 (p0 : Nat) (n : Nat) : Int32 → sm_MI → Option (sm_MI) :=
  sd_fix (fun k x1 I => F_Valley_clear_11B p0 k x1 I) (fun _ _ => none) n
noncomputable def F_Valley_clear (p0 : Nat) (I : sm_MI) : Option (sm_MI) :=
  sd_lt (sd_up I p0 0 (0 : Int32)) fun I1 =>
  sd_lt (sd_up I1 p0 1 (0 : Int32)) fun I2 =>
  sd_lt (sd_up I2 p0 2 (4 : Int32)) fun I3 =>
  F_Valley_clear_11 p0 sd_fu (0 : Int32) I3
theorem G_Valley_clear_11B {X : Nat × (Nat → Int32)} {t d D : Nat} {Q : sm_Q} {I : sm_MI} {J : sm_MJ} {p0 : Nat} {k11 : Int32 → sm_MI → Option (sm_MI)} {x1 : Int32} {Iz : sm_MI}
    (hD : 1 ≤ D) (hp : (p0 = 21) ∨ (p0 = 41)) (h : F_Valley_clear_11B p0 k11 x1 I = some (Iz)) (hQ : Q (.inl none) (Iz, J, sm_rf t d)) (hk11 : ∀ (x1 : Int32) (I : sm_MI), k11 x1 I = some (Iz) → sm_W sm_sh X (sm_C sm_sh X sm_P D) me_79 Q (11, [some (.ref p0), some (.int x1)], [], 0, 0) (I, J, sm_rf t d)) : sm_W sm_sh X (sm_C sm_sh X sm_P D) me_79 Q (11, [some (.ref p0), some (.int x1)], [], 0, 0) (I, J, sm_rf t d) := by
  unfold F_Valley_clear_11B at h
  rcases hp with rfl | rfl
  · skip
    refine sm_W.run (sm_C_mono D) 3 (G := True) (fr' := (if decide ((20 : Int32) ≤ x1) = true then 31 else 14, [some (.ref 21), some (.int x1)], [], 0, 0)) (M' := (I, J, sm_rf t d)) rfl trivial (sm_W.iteD h (fun hc h => ?_) (fun hc h => ?_))
    · refine sm_W.run (sm_C_mono D) 2 (G := True) (fr' := (33, [some (.ref 21), some (.int x1)], [.ref (21 + 14)], 0, 0)) (M' := (I, J, sm_rf t d)) rfl trivial ?_
      obtain ⟨I1, hc, h⟩ := sd_q1_go h
      refine sm_W.cal (sm_C_mono D) (y := 49) (as := [.ref (21 + 14)]) (fr' := (34, [some (.ref 21), some (.int x1)], [], 0, 0)) rfl (T_Rules_clear (by omega) (by decide) hc ?_)
      show sm_W sm_sh X (sm_C sm_sh X sm_P D) me_79 Q (34, [some (.ref 21), some (.int x1)], [], 0, 0) (I1, J, sm_rf t d)
      cases h
      exact sm_W.ret (sm_C_mono D) rfl hQ
    · obtain ⟨g2, h⟩ := sd_gu_go h
      refine sm_W.runL (sm_C_mono D) 5 (G := sm_in x1 20 = true ∧ True) (e := (sd_up I (21 + 6) (Int32.toNatClampNeg x1) (0 : Int32))) (fr' := fun _ => (19, [some (.ref 21), some (.int x1)], [], 0, 0)) (M' := fun I3 => (I3, J, sm_rf t d)) rfl h ⟨g2, trivial⟩ (fun I3 h => ?_)
      obtain ⟨g4, h⟩ := sd_gu_go h
      refine sm_W.runL (sm_C_mono D) 5 (G := sm_in x1 20 = true ∧ True) (e := (sd_up I3 (21 + 7) (Int32.toNatClampNeg x1) (0 : Int32))) (fr' := fun _ => (24, [some (.ref 21), some (.int x1)], [], 0, 0)) (M' := fun I5 => (I5, J, sm_rf t d)) rfl h ⟨g4, trivial⟩ (fun I5 h => ?_)
      obtain ⟨g6, h⟩ := sd_gu_go h
      refine sm_W.runL (sm_C_mono D) 5 (G := sm_in x1 20 = true ∧ True) (e := (sd_up I5 (21 + 11) (Int32.toNatClampNeg x1) (0 : Int32))) (fr' := fun _ => (29, [some (.ref 21), some (.int x1)], [], 0, 0)) (M' := fun I7 => (I7, J, sm_rf t d)) rfl h ⟨g6, trivial⟩ (fun I7 h => ?_)
      refine sm_W.run (sm_C_mono D) 2 (G := True) (fr' := (11, [some (.ref 21), some (.int (x1 + (1 : Int32)))], [], 0, 0)) (M' := (I7, J, sm_rf t d)) rfl trivial ?_
      exact (hk11 _ _ h)
  · skip
    refine sm_W.run (sm_C_mono D) 3 (G := True) (fr' := (if decide ((20 : Int32) ≤ x1) = true then 31 else 14, [some (.ref 41), some (.int x1)], [], 0, 0)) (M' := (I, J, sm_rf t d)) rfl trivial (sm_W.iteD h (fun hc h => ?_) (fun hc h => ?_))
    · refine sm_W.run (sm_C_mono D) 2 (G := True) (fr' := (33, [some (.ref 41), some (.int x1)], [.ref (41 + 14)], 0, 0)) (M' := (I, J, sm_rf t d)) rfl trivial ?_
      obtain ⟨I1, hc, h⟩ := sd_q1_go h
      refine sm_W.cal (sm_C_mono D) (y := 49) (as := [.ref (41 + 14)]) (fr' := (34, [some (.ref 41), some (.int x1)], [], 0, 0)) rfl (T_Rules_clear (by omega) (by decide) hc ?_)
      show sm_W sm_sh X (sm_C sm_sh X sm_P D) me_79 Q (34, [some (.ref 41), some (.int x1)], [], 0, 0) (I1, J, sm_rf t d)
      cases h
      exact sm_W.ret (sm_C_mono D) rfl hQ
    · obtain ⟨g2, h⟩ := sd_gu_go h
      refine sm_W.runL (sm_C_mono D) 5 (G := sm_in x1 20 = true ∧ True) (e := (sd_up I (41 + 6) (Int32.toNatClampNeg x1) (0 : Int32))) (fr' := fun _ => (19, [some (.ref 41), some (.int x1)], [], 0, 0)) (M' := fun I3 => (I3, J, sm_rf t d)) rfl h ⟨g2, trivial⟩ (fun I3 h => ?_)
      obtain ⟨g4, h⟩ := sd_gu_go h
      refine sm_W.runL (sm_C_mono D) 5 (G := sm_in x1 20 = true ∧ True) (e := (sd_up I3 (41 + 7) (Int32.toNatClampNeg x1) (0 : Int32))) (fr' := fun _ => (24, [some (.ref 41), some (.int x1)], [], 0, 0)) (M' := fun I5 => (I5, J, sm_rf t d)) rfl h ⟨g4, trivial⟩ (fun I5 h => ?_)
      obtain ⟨g6, h⟩ := sd_gu_go h
      refine sm_W.runL (sm_C_mono D) 5 (G := sm_in x1 20 = true ∧ True) (e := (sd_up I5 (41 + 11) (Int32.toNatClampNeg x1) (0 : Int32))) (fr' := fun _ => (29, [some (.ref 41), some (.int x1)], [], 0, 0)) (M' := fun I7 => (I7, J, sm_rf t d)) rfl h ⟨g6, trivial⟩ (fun I7 h => ?_)
      refine sm_W.run (sm_C_mono D) 2 (G := True) (fr' := (11, [some (.ref 41), some (.int (x1 + (1 : Int32)))], [], 0, 0)) (M' := (I7, J, sm_rf t d)) rfl trivial ?_
      exact (hk11 _ _ h)
theorem G_Valley_clear_11 {X : Nat × (Nat → Int32)} {t d D : Nat} {Q : sm_Q} {J : sm_MJ} {p0 : Nat} {Iz : sm_MI}
    (hD : 1 ≤ D) (hp : (p0 = 21) ∨ (p0 = 41)) (hQ : Q (.inl none) (Iz, J, sm_rf t d))  : ∀ (n : Nat) (x1 : Int32) (I : sm_MI), F_Valley_clear_11 p0 n x1 I = some (Iz) → sm_W sm_sh X (sm_C sm_sh X sm_P D) me_79 Q (11, [some (.ref p0), some (.int x1)], [], 0, 0) (I, J, sm_rf t d) := by
  intro n
  induction n with
  | zero => intro x1 I h; cases (show (none : Option (sm_MI)) = some (Iz) from h)
  | succ n ih => intro x1 I h; exact G_Valley_clear_11B hD hp (show F_Valley_clear_11B p0 (F_Valley_clear_11 p0 n) x1 I = some (Iz) from h) hQ  ih
theorem G_Valley_clear {X : Nat × (Nat → Int32)} {t d D : Nat} {Q : sm_Q} {I : sm_MI} {J : sm_MJ} {p0 : Nat} {Iz : sm_MI}
    (hD : 1 ≤ D) (hp : (p0 = 21) ∨ (p0 = 41)) (h : F_Valley_clear p0 I = some (Iz)) (hQ : Q (.inl none) (Iz, J, sm_rf t d))  : sm_W sm_sh X (sm_C sm_sh X sm_P D) me_79 Q (0, [some (.ref p0), none], [], 0, 0) (I, J, sm_rf t d) := by
  unfold F_Valley_clear at h
  rcases hp with rfl | rfl
  · skip
    refine sm_W.runL (sm_C_mono D) 3 (G := True) (e := (sd_up I 21 0 (0 : Int32))) (fr' := fun _ => (3, [some (.ref 21), none], [], 0, 0)) (M' := fun I1 => (I1, J, sm_rf t d)) rfl h trivial (fun I1 h => ?_)
    refine sm_W.runL (sm_C_mono D) 3 (G := True) (e := (sd_up I1 21 1 (0 : Int32))) (fr' := fun _ => (6, [some (.ref 21), none], [], 0, 0)) (M' := fun I2 => (I2, J, sm_rf t d)) rfl h trivial (fun I2 h => ?_)
    refine sm_W.runL (sm_C_mono D) 3 (G := True) (e := (sd_up I2 21 2 (4 : Int32))) (fr' := fun _ => (9, [some (.ref 21), none], [], 0, 0)) (M' := fun I3 => (I3, J, sm_rf t d)) rfl h trivial (fun I3 h => ?_)
    refine sm_W.run (sm_C_mono D) 2 (G := True) (fr' := (11, [some (.ref 21), some (.int (0 : Int32))], [], 0, 0)) (M' := (I3, J, sm_rf t d)) rfl trivial ?_
    exact (G_Valley_clear_11 hD (by decide) hQ sd_fu _ _ h)
  · skip
    refine sm_W.runL (sm_C_mono D) 3 (G := True) (e := (sd_up I 41 0 (0 : Int32))) (fr' := fun _ => (3, [some (.ref 41), none], [], 0, 0)) (M' := fun I1 => (I1, J, sm_rf t d)) rfl h trivial (fun I1 h => ?_)
    refine sm_W.runL (sm_C_mono D) 3 (G := True) (e := (sd_up I1 41 1 (0 : Int32))) (fr' := fun _ => (6, [some (.ref 41), none], [], 0, 0)) (M' := fun I2 => (I2, J, sm_rf t d)) rfl h trivial (fun I2 h => ?_)
    refine sm_W.runL (sm_C_mono D) 3 (G := True) (e := (sd_up I2 41 2 (4 : Int32))) (fr' := fun _ => (9, [some (.ref 41), none], [], 0, 0)) (M' := fun I3 => (I3, J, sm_rf t d)) rfl h trivial (fun I3 h => ?_)
    refine sm_W.run (sm_C_mono D) 2 (G := True) (fr' := (11, [some (.ref 41), some (.int (0 : Int32))], [], 0, 0)) (M' := (I3, J, sm_rf t d)) rfl trivial ?_
    exact (G_Valley_clear_11 hD (by decide) hQ sd_fu _ _ h)
theorem T_Valley_clear {X : Nat × (Nat → Int32)} {t d D : Nat} {Q : sm_Q} {I : sm_MI} {J : sm_MJ} {p0 : Nat} {Iz : sm_MI}
    (hD : 2 ≤ D) (hp : (p0 = 21) ∨ (p0 = 41)) (h : F_Valley_clear p0 I = some (Iz)) (hQ : Q (.inl none) (Iz, J, sm_rf t d)) : sm_C sm_sh X sm_P D 79 [.ref p0] (I, J, sm_rf t d) Q := by
  cases D with
  | zero => omega
  | succ D => exact sm_C.of (me := me_79) (L := [some (.ref p0), none]) rfl rfl rfl (sm_W.forget (L' := [some (.ref p0), none]) ⟨rfl, trivial⟩ (G_Valley_clear (by omega) hp h hQ))
-- 81 Valley_withValue
noncomputable def F_Valley_withValue_4B (p0 : Nat) (p1 : Nat) (k4 : Int32 → Int32 → Int32 → Option (Int32)) (x2 : Int32) (x3 : Int32) (x4 : Int32) (I : sm_MI) : Option (Int32) :=
  if (I p0 0) ≤ x4 then
    some (x3)
  else
    if (14 : Int32) ≤ x4 then
      some (x3)
    else
      sd_gu (sm_in x4 14 = true) <|
      if ¬ (I p1 (Int32.toNatClampNeg x4)) = x2 then
        k4 x2 x3 (x4 + (1 : Int32))
      else
        sd_lt (x3 ||| ((1 : Int32) <<< (x4 &&& 31))) fun a2 =>
        k4 x2 a2 (x4 + (1 : Int32))
noncomputable def F_Valley_withValue_4 (p0 : Nat) (p1 : Nat) (I : sm_MI) (n : Nat) : Int32 → Int32 → Int32 → Option (Int32) :=
  sd_fix (fun k x2 x3 x4 => F_Valley_withValue_4B p0 p1 k x2 x3 x4 I) (fun _ _ _ => none) n
noncomputable def F_Valley_withValue (p0 : Nat) (p1 : Nat) (x2 : Int32) (I : sm_MI) : Option (Int32) :=
  F_Valley_withValue_4 p0 p1 I sd_fu x2 (0 : Int32) (0 : Int32)
theorem G_Valley_withValue_4B {X : Nat × (Nat → Int32)} {t d D : Nat} {Q : sm_Q} {I : sm_MI} {J : sm_MJ} {p0 : Nat} {p1 : Nat} {k4 : Int32 → Int32 → Int32 → Option (Int32)} {x2 : Int32} {x3 : Int32} {x4 : Int32} {rz : Int32}
    (hD : 0 ≤ D) (hp : (p0 = 21 ∧ p1 = 22) ∨ (p0 = 21 ∧ p1 = 23) ∨ (p0 = 41 ∧ p1 = 42) ∨ (p0 = 41 ∧ p1 = 43)) (h : F_Valley_withValue_4B p0 p1 k4 x2 x3 x4 I = some (rz)) (hQ : Q (.inl (some (.int rz))) (I, J, sm_rf t d)) (hk4 : ∀ (x2 : Int32) (x3 : Int32) (x4 : Int32), k4 x2 x3 x4 = some (rz) → sm_W sm_sh X (sm_C sm_sh X sm_P D) me_81 Q (4, [some (.ref p0), some (.ref p1), some (.int x2), some (.int x3), some (.int x4)], [], 0, 0) (I, J, sm_rf t d)) : sm_W sm_sh X (sm_C sm_sh X sm_P D) me_81 Q (4, [some (.ref p0), some (.ref p1), some (.int x2), some (.int x3), some (.int x4)], [], 0, 0) (I, J, sm_rf t d) := by
  unfold F_Valley_withValue_4B at h
  rcases hp with ⟨rfl, rfl⟩ | ⟨rfl, rfl⟩ | ⟨rfl, rfl⟩ | ⟨rfl, rfl⟩
  · skip
    refine sm_W.run (sm_C_mono D) 4 (G := True) (fr' := (if decide ((I 21 0) ≤ x4) = true then 25 else 8, [some (.ref 21), some (.ref 22), some (.int x2), some (.int x3), some (.int x4)], [], 0, 0)) (M' := (I, J, sm_rf t d)) rfl trivial (sm_W.iteD h (fun hc h => ?_) (fun hc h => ?_))
    · refine sm_W.run (sm_C_mono D) 1 (G := True) (fr' := (26, [some (.ref 21), some (.ref 22), some (.int x2), some (.int x3), some (.int x4)], [.int x3], 0, 0)) (M' := (I, J, sm_rf t d)) rfl trivial ?_
      cases h
      exact sm_W.ret (sm_C_mono D) rfl hQ
    · refine sm_W.run (sm_C_mono D) 4 (G := True) (fr' := (if decide ((14 : Int32) ≤ x4) = true then 25 else 12, [some (.ref 21), some (.ref 22), some (.int x2), some (.int x3), some (.int x4)], [], 0, 0)) (M' := (I, J, sm_rf t d)) rfl trivial (sm_W.iteD h (fun hc h => ?_) (fun hc h => ?_))
      · refine sm_W.run (sm_C_mono D) 1 (G := True) (fr' := (26, [some (.ref 21), some (.ref 22), some (.int x2), some (.int x3), some (.int x4)], [.int x3], 0, 0)) (M' := (I, J, sm_rf t d)) rfl trivial ?_
        cases h
        exact sm_W.ret (sm_C_mono D) rfl hQ
      · obtain ⟨g1, h⟩ := sd_gu_go h
        refine sm_W.run (sm_C_mono D) 5 (G := sm_in x4 14 = true ∧ True) (fr' := (if decide (¬ (I 22 (Int32.toNatClampNeg x4)) = x2) = true then 23 else 17, [some (.ref 21), some (.ref 22), some (.int x2), some (.int x3), some (.int x4)], [], 0, 0)) (M' := (I, J, sm_rf t d)) rfl ⟨g1, trivial⟩ (sm_W.iteD h (fun hc h => ?_) (fun hc h => ?_))
        · refine sm_W.run (sm_C_mono D) 2 (G := True) (fr' := (4, [some (.ref 21), some (.ref 22), some (.int x2), some (.int x3), some (.int (x4 + (1 : Int32)))], [], 0, 0)) (M' := (I, J, sm_rf t d)) rfl trivial ?_
          exact (hk4 _ _ _ h)
        · refine sm_W.runL (sm_C_mono D) 6 (G := True) (e := (x3 ||| ((1 : Int32) <<< (x4 &&& 31)))) (fr' := fun a2 => (23, [some (.ref 21), some (.ref 22), some (.int x2), some (.int a2), some (.int x4)], [], 0, 0)) (M' := fun _ => (I, J, sm_rf t d)) rfl h trivial (fun a2 h => ?_)
          refine sm_W.run (sm_C_mono D) 2 (G := True) (fr' := (4, [some (.ref 21), some (.ref 22), some (.int x2), some (.int a2), some (.int (x4 + (1 : Int32)))], [], 0, 0)) (M' := (I, J, sm_rf t d)) rfl trivial ?_
          exact (hk4 _ _ _ h)
  · skip
    refine sm_W.run (sm_C_mono D) 4 (G := True) (fr' := (if decide ((I 21 0) ≤ x4) = true then 25 else 8, [some (.ref 21), some (.ref 23), some (.int x2), some (.int x3), some (.int x4)], [], 0, 0)) (M' := (I, J, sm_rf t d)) rfl trivial (sm_W.iteD h (fun hc h => ?_) (fun hc h => ?_))
    · refine sm_W.run (sm_C_mono D) 1 (G := True) (fr' := (26, [some (.ref 21), some (.ref 23), some (.int x2), some (.int x3), some (.int x4)], [.int x3], 0, 0)) (M' := (I, J, sm_rf t d)) rfl trivial ?_
      cases h
      exact sm_W.ret (sm_C_mono D) rfl hQ
    · refine sm_W.run (sm_C_mono D) 4 (G := True) (fr' := (if decide ((14 : Int32) ≤ x4) = true then 25 else 12, [some (.ref 21), some (.ref 23), some (.int x2), some (.int x3), some (.int x4)], [], 0, 0)) (M' := (I, J, sm_rf t d)) rfl trivial (sm_W.iteD h (fun hc h => ?_) (fun hc h => ?_))
      · refine sm_W.run (sm_C_mono D) 1 (G := True) (fr' := (26, [some (.ref 21), some (.ref 23), some (.int x2), some (.int x3), some (.int x4)], [.int x3], 0, 0)) (M' := (I, J, sm_rf t d)) rfl trivial ?_
        cases h
        exact sm_W.ret (sm_C_mono D) rfl hQ
      · obtain ⟨g1, h⟩ := sd_gu_go h
        refine sm_W.run (sm_C_mono D) 5 (G := sm_in x4 14 = true ∧ True) (fr' := (if decide (¬ (I 23 (Int32.toNatClampNeg x4)) = x2) = true then 23 else 17, [some (.ref 21), some (.ref 23), some (.int x2), some (.int x3), some (.int x4)], [], 0, 0)) (M' := (I, J, sm_rf t d)) rfl ⟨g1, trivial⟩ (sm_W.iteD h (fun hc h => ?_) (fun hc h => ?_))
        · refine sm_W.run (sm_C_mono D) 2 (G := True) (fr' := (4, [some (.ref 21), some (.ref 23), some (.int x2), some (.int x3), some (.int (x4 + (1 : Int32)))], [], 0, 0)) (M' := (I, J, sm_rf t d)) rfl trivial ?_
          exact (hk4 _ _ _ h)
        · refine sm_W.runL (sm_C_mono D) 6 (G := True) (e := (x3 ||| ((1 : Int32) <<< (x4 &&& 31)))) (fr' := fun a2 => (23, [some (.ref 21), some (.ref 23), some (.int x2), some (.int a2), some (.int x4)], [], 0, 0)) (M' := fun _ => (I, J, sm_rf t d)) rfl h trivial (fun a2 h => ?_)
          refine sm_W.run (sm_C_mono D) 2 (G := True) (fr' := (4, [some (.ref 21), some (.ref 23), some (.int x2), some (.int a2), some (.int (x4 + (1 : Int32)))], [], 0, 0)) (M' := (I, J, sm_rf t d)) rfl trivial ?_
          exact (hk4 _ _ _ h)
  · skip
    refine sm_W.run (sm_C_mono D) 4 (G := True) (fr' := (if decide ((I 41 0) ≤ x4) = true then 25 else 8, [some (.ref 41), some (.ref 42), some (.int x2), some (.int x3), some (.int x4)], [], 0, 0)) (M' := (I, J, sm_rf t d)) rfl trivial (sm_W.iteD h (fun hc h => ?_) (fun hc h => ?_))
    · refine sm_W.run (sm_C_mono D) 1 (G := True) (fr' := (26, [some (.ref 41), some (.ref 42), some (.int x2), some (.int x3), some (.int x4)], [.int x3], 0, 0)) (M' := (I, J, sm_rf t d)) rfl trivial ?_
      cases h
      exact sm_W.ret (sm_C_mono D) rfl hQ
    · refine sm_W.run (sm_C_mono D) 4 (G := True) (fr' := (if decide ((14 : Int32) ≤ x4) = true then 25 else 12, [some (.ref 41), some (.ref 42), some (.int x2), some (.int x3), some (.int x4)], [], 0, 0)) (M' := (I, J, sm_rf t d)) rfl trivial (sm_W.iteD h (fun hc h => ?_) (fun hc h => ?_))
      · refine sm_W.run (sm_C_mono D) 1 (G := True) (fr' := (26, [some (.ref 41), some (.ref 42), some (.int x2), some (.int x3), some (.int x4)], [.int x3], 0, 0)) (M' := (I, J, sm_rf t d)) rfl trivial ?_
        cases h
        exact sm_W.ret (sm_C_mono D) rfl hQ
      · obtain ⟨g1, h⟩ := sd_gu_go h
        refine sm_W.run (sm_C_mono D) 5 (G := sm_in x4 14 = true ∧ True) (fr' := (if decide (¬ (I 42 (Int32.toNatClampNeg x4)) = x2) = true then 23 else 17, [some (.ref 41), some (.ref 42), some (.int x2), some (.int x3), some (.int x4)], [], 0, 0)) (M' := (I, J, sm_rf t d)) rfl ⟨g1, trivial⟩ (sm_W.iteD h (fun hc h => ?_) (fun hc h => ?_))
        · refine sm_W.run (sm_C_mono D) 2 (G := True) (fr' := (4, [some (.ref 41), some (.ref 42), some (.int x2), some (.int x3), some (.int (x4 + (1 : Int32)))], [], 0, 0)) (M' := (I, J, sm_rf t d)) rfl trivial ?_
          exact (hk4 _ _ _ h)
        · refine sm_W.runL (sm_C_mono D) 6 (G := True) (e := (x3 ||| ((1 : Int32) <<< (x4 &&& 31)))) (fr' := fun a2 => (23, [some (.ref 41), some (.ref 42), some (.int x2), some (.int a2), some (.int x4)], [], 0, 0)) (M' := fun _ => (I, J, sm_rf t d)) rfl h trivial (fun a2 h => ?_)
          refine sm_W.run (sm_C_mono D) 2 (G := True) (fr' := (4, [some (.ref 41), some (.ref 42), some (.int x2), some (.int a2), some (.int (x4 + (1 : Int32)))], [], 0, 0)) (M' := (I, J, sm_rf t d)) rfl trivial ?_
          exact (hk4 _ _ _ h)
  · skip
    refine sm_W.run (sm_C_mono D) 4 (G := True) (fr' := (if decide ((I 41 0) ≤ x4) = true then 25 else 8, [some (.ref 41), some (.ref 43), some (.int x2), some (.int x3), some (.int x4)], [], 0, 0)) (M' := (I, J, sm_rf t d)) rfl trivial (sm_W.iteD h (fun hc h => ?_) (fun hc h => ?_))
    · refine sm_W.run (sm_C_mono D) 1 (G := True) (fr' := (26, [some (.ref 41), some (.ref 43), some (.int x2), some (.int x3), some (.int x4)], [.int x3], 0, 0)) (M' := (I, J, sm_rf t d)) rfl trivial ?_
      cases h
      exact sm_W.ret (sm_C_mono D) rfl hQ
    · refine sm_W.run (sm_C_mono D) 4 (G := True) (fr' := (if decide ((14 : Int32) ≤ x4) = true then 25 else 12, [some (.ref 41), some (.ref 43), some (.int x2), some (.int x3), some (.int x4)], [], 0, 0)) (M' := (I, J, sm_rf t d)) rfl trivial (sm_W.iteD h (fun hc h => ?_) (fun hc h => ?_))
      · refine sm_W.run (sm_C_mono D) 1 (G := True) (fr' := (26, [some (.ref 41), some (.ref 43), some (.int x2), some (.int x3), some (.int x4)], [.int x3], 0, 0)) (M' := (I, J, sm_rf t d)) rfl trivial ?_
        cases h
        exact sm_W.ret (sm_C_mono D) rfl hQ
      · obtain ⟨g1, h⟩ := sd_gu_go h
        refine sm_W.run (sm_C_mono D) 5 (G := sm_in x4 14 = true ∧ True) (fr' := (if decide (¬ (I 43 (Int32.toNatClampNeg x4)) = x2) = true then 23 else 17, [some (.ref 41), some (.ref 43), some (.int x2), some (.int x3), some (.int x4)], [], 0, 0)) (M' := (I, J, sm_rf t d)) rfl ⟨g1, trivial⟩ (sm_W.iteD h (fun hc h => ?_) (fun hc h => ?_))
        · refine sm_W.run (sm_C_mono D) 2 (G := True) (fr' := (4, [some (.ref 41), some (.ref 43), some (.int x2), some (.int x3), some (.int (x4 + (1 : Int32)))], [], 0, 0)) (M' := (I, J, sm_rf t d)) rfl trivial ?_
          exact (hk4 _ _ _ h)
        · refine sm_W.runL (sm_C_mono D) 6 (G := True) (e := (x3 ||| ((1 : Int32) <<< (x4 &&& 31)))) (fr' := fun a2 => (23, [some (.ref 41), some (.ref 43), some (.int x2), some (.int a2), some (.int x4)], [], 0, 0)) (M' := fun _ => (I, J, sm_rf t d)) rfl h trivial (fun a2 h => ?_)
          refine sm_W.run (sm_C_mono D) 2 (G := True) (fr' := (4, [some (.ref 41), some (.ref 43), some (.int x2), some (.int a2), some (.int (x4 + (1 : Int32)))], [], 0, 0)) (M' := (I, J, sm_rf t d)) rfl trivial ?_
          exact (hk4 _ _ _ h)
theorem G_Valley_withValue_4 {X : Nat × (Nat → Int32)} {t d D : Nat} {Q : sm_Q} {I : sm_MI} {J : sm_MJ} {p0 : Nat} {p1 : Nat} {rz : Int32}
    (hD : 0 ≤ D) (hp : (p0 = 21 ∧ p1 = 22) ∨ (p0 = 21 ∧ p1 = 23) ∨ (p0 = 41 ∧ p1 = 42) ∨ (p0 = 41 ∧ p1 = 43)) (hQ : Q (.inl (some (.int rz))) (I, J, sm_rf t d))  : ∀ (n : Nat) (x2 : Int32) (x3 : Int32) (x4 : Int32), F_Valley_withValue_4 p0 p1 I n x2 x3 x4 = some (rz) → sm_W sm_sh X (sm_C sm_sh X sm_P D) me_81 Q (4, [some (.ref p0), some (.ref p1), some (.int x2), some (.int x3), some (.int x4)], [], 0, 0) (I, J, sm_rf t d) := by
  intro n
  induction n with
  | zero => intro x2 x3 x4 h; cases (show (none : Option (Int32)) = some (rz) from h)
  | succ n ih => intro x2 x3 x4 h; exact G_Valley_withValue_4B hD hp (show F_Valley_withValue_4B p0 p1 (F_Valley_withValue_4 p0 p1 I n) x2 x3 x4 I = some (rz) from h) hQ  ih
theorem G_Valley_withValue {X : Nat × (Nat → Int32)} {t d D : Nat} {Q : sm_Q} {I : sm_MI} {J : sm_MJ} {p0 : Nat} {p1 : Nat} {x2 : Int32} {rz : Int32}
    (hD : 0 ≤ D) (hp : (p0 = 21 ∧ p1 = 22) ∨ (p0 = 21 ∧ p1 = 23) ∨ (p0 = 41 ∧ p1 = 42) ∨ (p0 = 41 ∧ p1 = 43)) (h : F_Valley_withValue p0 p1 x2 I = some (rz)) (hQ : Q (.inl (some (.int rz))) (I, J, sm_rf t d))  : sm_W sm_sh X (sm_C sm_sh X sm_P D) me_81 Q (0, [some (.ref p0), some (.ref p1), some (.int x2), none, none], [], 0, 0) (I, J, sm_rf t d) := by
  unfold F_Valley_withValue at h
  rcases hp with ⟨rfl, rfl⟩ | ⟨rfl, rfl⟩ | ⟨rfl, rfl⟩ | ⟨rfl, rfl⟩
  · skip
    refine sm_W.run (sm_C_mono D) 4 (G := True) (fr' := (4, [some (.ref 21), some (.ref 22), some (.int x2), some (.int (0 : Int32)), some (.int (0 : Int32))], [], 0, 0)) (M' := (I, J, sm_rf t d)) rfl trivial ?_
    exact (G_Valley_withValue_4 hD (by decide) hQ sd_fu _ _ _ h)
  · skip
    refine sm_W.run (sm_C_mono D) 4 (G := True) (fr' := (4, [some (.ref 21), some (.ref 23), some (.int x2), some (.int (0 : Int32)), some (.int (0 : Int32))], [], 0, 0)) (M' := (I, J, sm_rf t d)) rfl trivial ?_
    exact (G_Valley_withValue_4 hD (by decide) hQ sd_fu _ _ _ h)
  · skip
    refine sm_W.run (sm_C_mono D) 4 (G := True) (fr' := (4, [some (.ref 41), some (.ref 42), some (.int x2), some (.int (0 : Int32)), some (.int (0 : Int32))], [], 0, 0)) (M' := (I, J, sm_rf t d)) rfl trivial ?_
    exact (G_Valley_withValue_4 hD (by decide) hQ sd_fu _ _ _ h)
  · skip
    refine sm_W.run (sm_C_mono D) 4 (G := True) (fr' := (4, [some (.ref 41), some (.ref 43), some (.int x2), some (.int (0 : Int32)), some (.int (0 : Int32))], [], 0, 0)) (M' := (I, J, sm_rf t d)) rfl trivial ?_
    exact (G_Valley_withValue_4 hD (by decide) hQ sd_fu _ _ _ h)
theorem T_Valley_withValue {X : Nat × (Nat → Int32)} {t d D : Nat} {Q : sm_Q} {I : sm_MI} {J : sm_MJ} {p0 : Nat} {p1 : Nat} {x2 : Int32} {rz : Int32}
    (hD : 1 ≤ D) (hp : (p0 = 21 ∧ p1 = 22) ∨ (p0 = 21 ∧ p1 = 23) ∨ (p0 = 41 ∧ p1 = 42) ∨ (p0 = 41 ∧ p1 = 43)) (h : F_Valley_withValue p0 p1 x2 I = some (rz)) (hQ : Q (.inl (some (.int rz))) (I, J, sm_rf t d)) : sm_C sm_sh X sm_P D 81 [.ref p0, .ref p1, .int x2] (I, J, sm_rf t d) Q := by
  cases D with
  | zero => omega
  | succ D => exact sm_C.of (me := me_81) (L := [some (.ref p0), some (.ref p1), some (.int x2), none, none]) rfl rfl rfl (sm_W.forget (L' := [some (.ref p0), some (.ref p1), some (.int x2), none, none]) ⟨rfl, ⟨rfl, ⟨rfl, trivial⟩⟩⟩ (G_Valley_withValue (by omega) hp h hQ))
-- 82 Valley_spanRow
noncomputable def F_Valley_spanRow_12B (p0 : Nat) (k12 : Int32 → Int32 → sm_MI → Option (sm_MI)) (x1 : Int32) (x2 : Int32) (I : sm_MI) : Option (sm_MI) :=
  sd_gu (sm_in x1 20 = true) <|
  if (I (p0 + 7) (Int32.toNatClampNeg x1)) ≤ x2 then
    some (I)
  else
    if (12 : Int32) ≤ x2 then
      some (I)
    else
      sd_gu (sm_in ((x1 * (12 : Int32)) + x2) 240 = true) <|
      sd_lt (I (p0 + 8) (Int32.toNatClampNeg ((x1 * (12 : Int32)) + x2))) fun a3 =>
      sd_gu (sm_in x1 20 = true) <|
      sd_q1 (F_Math_min (I (p0 + 9) (Int32.toNatClampNeg x1)) a3) fun r5 =>
      sd_gu (sm_in x1 20 = true) <|
      sd_lt (sd_up I (p0 + 9) (Int32.toNatClampNeg x1) r5) fun I7 =>
      sd_gu (sm_in x1 20 = true) <|
      sd_q1 (F_Math_max (I7 (p0 + 10) (Int32.toNatClampNeg x1)) a3) fun r9 =>
      sd_gu (sm_in x1 20 = true) <|
      sd_lt (sd_up I7 (p0 + 10) (Int32.toNatClampNeg x1) r9) fun I11 =>
      k12 x1 (x2 + (1 : Int32)) I11
noncomputable def F_Valley_spanRow_12 (p0 : Nat) (n : Nat) : Int32 → Int32 → sm_MI → Option (sm_MI) :=
  sd_fix (fun k x1 x2 I => F_Valley_spanRow_12B p0 k x1 x2 I) (fun _ _ _ => none) n
noncomputable def F_Valley_spanRow (p0 : Nat) (x1 : Int32) (I : sm_MI) : Option (sm_MI) :=
  sd_gu (sm_in x1 20 = true) <|
  sd_lt (sd_up I (p0 + 9) (Int32.toNatClampNeg x1) (48 : Int32)) fun I2 =>
  sd_gu (sm_in x1 20 = true) <|
  sd_lt (sd_up I2 (p0 + 10) (Int32.toNatClampNeg x1) (0 : Int32)) fun I4 =>
  F_Valley_spanRow_12 p0 sd_fu x1 (0 : Int32) I4
theorem G_Valley_spanRow_12B {X : Nat × (Nat → Int32)} {t d D : Nat} {Q : sm_Q} {I : sm_MI} {J : sm_MJ} {p0 : Nat} {k12 : Int32 → Int32 → sm_MI → Option (sm_MI)} {x1 : Int32} {x2 : Int32} {Iz : sm_MI}
    (hD : 1 ≤ D) (hp : (p0 = 21) ∨ (p0 = 41)) (h : F_Valley_spanRow_12B p0 k12 x1 x2 I = some (Iz)) (hQ : Q (.inl none) (Iz, J, sm_rf t d)) (hk12 : ∀ (x1 : Int32) (x2 : Int32) (I : sm_MI), k12 x1 x2 I = some (Iz) → sm_W sm_sh X (sm_C sm_sh X sm_P D) me_82 Q (12, [some (.ref p0), some (.int x1), some (.int x2), none], [], 0, 0) (I, J, sm_rf t d)) : sm_W sm_sh X (sm_C sm_sh X sm_P D) me_82 Q (12, [some (.ref p0), some (.int x1), some (.int x2), none], [], 0, 0) (I, J, sm_rf t d) := by
  unfold F_Valley_spanRow_12B at h
  rcases hp with rfl | rfl
  · skip
    obtain ⟨g1, h⟩ := sd_gu_go h
    refine sm_W.run (sm_C_mono D) 6 (G := sm_in x1 20 = true ∧ True) (fr' := (if decide ((I (21 + 7) (Int32.toNatClampNeg x1)) ≤ x2) = true then 52 else 18, [some (.ref 21), some (.int x1), some (.int x2), none], [], 0, 0)) (M' := (I, J, sm_rf t d)) rfl ⟨g1, trivial⟩ (sm_W.iteD h (fun hc h => ?_) (fun hc h => ?_))
    · cases h
      exact sm_W.ret (sm_C_mono D) rfl hQ
    · refine sm_W.run (sm_C_mono D) 3 (G := True) (fr' := (if decide ((12 : Int32) ≤ x2) = true then 52 else 21, [some (.ref 21), some (.int x1), some (.int x2), none], [], 0, 0)) (M' := (I, J, sm_rf t d)) rfl trivial (sm_W.iteD h (fun hc h => ?_) (fun hc h => ?_))
      · cases h
        exact sm_W.ret (sm_C_mono D) rfl hQ
      · obtain ⟨g2, h⟩ := sd_gu_go h
        refine sm_W.runL (sm_C_mono D) 9 (G := sm_in ((x1 * (12 : Int32)) + x2) 240 = true ∧ True) (e := (I (21 + 8) (Int32.toNatClampNeg ((x1 * (12 : Int32)) + x2)))) (fr' := fun a3 => (30, [some (.ref 21), some (.int x1), some (.int x2), some (.int a3)], [], 0, 0)) (M' := fun _ => (I, J, sm_rf t d)) rfl h ⟨g2, trivial⟩ (fun a3 h => ?_)
        obtain ⟨g4, h⟩ := sd_gu_go h
        refine sm_W.run (sm_C_mono D) 8 (G := sm_in x1 20 = true ∧ True) (fr' := (38, [some (.ref 21), some (.int x1), some (.int x2), some (.int a3)], [.int a3, .int (I (21 + 9) (Int32.toNatClampNeg x1)), .int x1, .ref (21 + 9)], 0, 0)) (M' := (I, J, sm_rf t d)) rfl ⟨g4, trivial⟩ ?_
        obtain ⟨r5, hc, h⟩ := sd_q1_go h
        refine sm_W.cal (sm_C_mono D) (y := 270) (as := [.int (I (21 + 9) (Int32.toNatClampNeg x1)), .int a3]) (fr' := (39, [some (.ref 21), some (.int x1), some (.int x2), some (.int a3)], [.int x1, .ref (21 + 9)], 0, 0)) rfl (T_Math_min (by omega) hc ?_)
        show sm_W sm_sh X (sm_C sm_sh X sm_P D) me_82 Q (39, [some (.ref 21), some (.int x1), some (.int x2), some (.int a3)], [.int r5, .int x1, .ref (21 + 9)], 0, 0) (I, J, sm_rf t d)
        obtain ⟨g6, h⟩ := sd_gu_go h
        refine sm_W.runL (sm_C_mono D) 1 (G := sm_in x1 20 = true ∧ True) (e := (sd_up I (21 + 9) (Int32.toNatClampNeg x1) r5)) (fr' := fun _ => (40, [some (.ref 21), some (.int x1), some (.int x2), some (.int a3)], [], 0, 0)) (M' := fun I7 => (I7, J, sm_rf t d)) rfl h ⟨g6, trivial⟩ (fun I7 h => ?_)
        obtain ⟨g8, h⟩ := sd_gu_go h
        refine sm_W.run (sm_C_mono D) 8 (G := sm_in x1 20 = true ∧ True) (fr' := (48, [some (.ref 21), some (.int x1), some (.int x2), some (.int a3)], [.int a3, .int (I7 (21 + 10) (Int32.toNatClampNeg x1)), .int x1, .ref (21 + 10)], 0, 0)) (M' := (I7, J, sm_rf t d)) rfl ⟨g8, trivial⟩ ?_
        obtain ⟨r9, hc, h⟩ := sd_q1_go h
        refine sm_W.cal (sm_C_mono D) (y := 269) (as := [.int (I7 (21 + 10) (Int32.toNatClampNeg x1)), .int a3]) (fr' := (49, [some (.ref 21), some (.int x1), some (.int x2), some (.int a3)], [.int x1, .ref (21 + 10)], 0, 0)) rfl (T_Math_max (by omega) hc ?_)
        show sm_W sm_sh X (sm_C sm_sh X sm_P D) me_82 Q (49, [some (.ref 21), some (.int x1), some (.int x2), some (.int a3)], [.int r9, .int x1, .ref (21 + 10)], 0, 0) (I7, J, sm_rf t d)
        obtain ⟨g10, h⟩ := sd_gu_go h
        refine sm_W.runL (sm_C_mono D) 1 (G := sm_in x1 20 = true ∧ True) (e := (sd_up I7 (21 + 10) (Int32.toNatClampNeg x1) r9)) (fr' := fun _ => (50, [some (.ref 21), some (.int x1), some (.int x2), some (.int a3)], [], 0, 0)) (M' := fun I11 => (I11, J, sm_rf t d)) rfl h ⟨g10, trivial⟩ (fun I11 h => ?_)
        refine sm_W.run (sm_C_mono D) 2 (G := True) (fr' := (12, [some (.ref 21), some (.int x1), some (.int (x2 + (1 : Int32))), some (.int a3)], [], 0, 0)) (M' := (I11, J, sm_rf t d)) rfl trivial ?_
        exact sm_W.forget (L' := [some (.ref 21), some (.int x1), some (.int (x2 + (1 : Int32))), none]) ⟨rfl, ⟨rfl, ⟨rfl, trivial⟩⟩⟩ (hk12 _ _ _ h)
  · skip
    obtain ⟨g1, h⟩ := sd_gu_go h
    refine sm_W.run (sm_C_mono D) 6 (G := sm_in x1 20 = true ∧ True) (fr' := (if decide ((I (41 + 7) (Int32.toNatClampNeg x1)) ≤ x2) = true then 52 else 18, [some (.ref 41), some (.int x1), some (.int x2), none], [], 0, 0)) (M' := (I, J, sm_rf t d)) rfl ⟨g1, trivial⟩ (sm_W.iteD h (fun hc h => ?_) (fun hc h => ?_))
    · cases h
      exact sm_W.ret (sm_C_mono D) rfl hQ
    · refine sm_W.run (sm_C_mono D) 3 (G := True) (fr' := (if decide ((12 : Int32) ≤ x2) = true then 52 else 21, [some (.ref 41), some (.int x1), some (.int x2), none], [], 0, 0)) (M' := (I, J, sm_rf t d)) rfl trivial (sm_W.iteD h (fun hc h => ?_) (fun hc h => ?_))
      · cases h
        exact sm_W.ret (sm_C_mono D) rfl hQ
      · obtain ⟨g2, h⟩ := sd_gu_go h
        refine sm_W.runL (sm_C_mono D) 9 (G := sm_in ((x1 * (12 : Int32)) + x2) 240 = true ∧ True) (e := (I (41 + 8) (Int32.toNatClampNeg ((x1 * (12 : Int32)) + x2)))) (fr' := fun a3 => (30, [some (.ref 41), some (.int x1), some (.int x2), some (.int a3)], [], 0, 0)) (M' := fun _ => (I, J, sm_rf t d)) rfl h ⟨g2, trivial⟩ (fun a3 h => ?_)
        obtain ⟨g4, h⟩ := sd_gu_go h
        refine sm_W.run (sm_C_mono D) 8 (G := sm_in x1 20 = true ∧ True) (fr' := (38, [some (.ref 41), some (.int x1), some (.int x2), some (.int a3)], [.int a3, .int (I (41 + 9) (Int32.toNatClampNeg x1)), .int x1, .ref (41 + 9)], 0, 0)) (M' := (I, J, sm_rf t d)) rfl ⟨g4, trivial⟩ ?_
        obtain ⟨r5, hc, h⟩ := sd_q1_go h
        refine sm_W.cal (sm_C_mono D) (y := 270) (as := [.int (I (41 + 9) (Int32.toNatClampNeg x1)), .int a3]) (fr' := (39, [some (.ref 41), some (.int x1), some (.int x2), some (.int a3)], [.int x1, .ref (41 + 9)], 0, 0)) rfl (T_Math_min (by omega) hc ?_)
        show sm_W sm_sh X (sm_C sm_sh X sm_P D) me_82 Q (39, [some (.ref 41), some (.int x1), some (.int x2), some (.int a3)], [.int r5, .int x1, .ref (41 + 9)], 0, 0) (I, J, sm_rf t d)
        obtain ⟨g6, h⟩ := sd_gu_go h
        refine sm_W.runL (sm_C_mono D) 1 (G := sm_in x1 20 = true ∧ True) (e := (sd_up I (41 + 9) (Int32.toNatClampNeg x1) r5)) (fr' := fun _ => (40, [some (.ref 41), some (.int x1), some (.int x2), some (.int a3)], [], 0, 0)) (M' := fun I7 => (I7, J, sm_rf t d)) rfl h ⟨g6, trivial⟩ (fun I7 h => ?_)
        obtain ⟨g8, h⟩ := sd_gu_go h
        refine sm_W.run (sm_C_mono D) 8 (G := sm_in x1 20 = true ∧ True) (fr' := (48, [some (.ref 41), some (.int x1), some (.int x2), some (.int a3)], [.int a3, .int (I7 (41 + 10) (Int32.toNatClampNeg x1)), .int x1, .ref (41 + 10)], 0, 0)) (M' := (I7, J, sm_rf t d)) rfl ⟨g8, trivial⟩ ?_
        obtain ⟨r9, hc, h⟩ := sd_q1_go h
        refine sm_W.cal (sm_C_mono D) (y := 269) (as := [.int (I7 (41 + 10) (Int32.toNatClampNeg x1)), .int a3]) (fr' := (49, [some (.ref 41), some (.int x1), some (.int x2), some (.int a3)], [.int x1, .ref (41 + 10)], 0, 0)) rfl (T_Math_max (by omega) hc ?_)
        show sm_W sm_sh X (sm_C sm_sh X sm_P D) me_82 Q (49, [some (.ref 41), some (.int x1), some (.int x2), some (.int a3)], [.int r9, .int x1, .ref (41 + 10)], 0, 0) (I7, J, sm_rf t d)
        obtain ⟨g10, h⟩ := sd_gu_go h
        refine sm_W.runL (sm_C_mono D) 1 (G := sm_in x1 20 = true ∧ True) (e := (sd_up I7 (41 + 10) (Int32.toNatClampNeg x1) r9)) (fr' := fun _ => (50, [some (.ref 41), some (.int x1), some (.int x2), some (.int a3)], [], 0, 0)) (M' := fun I11 => (I11, J, sm_rf t d)) rfl h ⟨g10, trivial⟩ (fun I11 h => ?_)
        refine sm_W.run (sm_C_mono D) 2 (G := True) (fr' := (12, [some (.ref 41), some (.int x1), some (.int (x2 + (1 : Int32))), some (.int a3)], [], 0, 0)) (M' := (I11, J, sm_rf t d)) rfl trivial ?_
        exact sm_W.forget (L' := [some (.ref 41), some (.int x1), some (.int (x2 + (1 : Int32))), none]) ⟨rfl, ⟨rfl, ⟨rfl, trivial⟩⟩⟩ (hk12 _ _ _ h)
theorem G_Valley_spanRow_12 {X : Nat × (Nat → Int32)} {t d D : Nat} {Q : sm_Q} {J : sm_MJ} {p0 : Nat} {Iz : sm_MI}
    (hD : 1 ≤ D) (hp : (p0 = 21) ∨ (p0 = 41)) (hQ : Q (.inl none) (Iz, J, sm_rf t d))  : ∀ (n : Nat) (x1 : Int32) (x2 : Int32) (I : sm_MI), F_Valley_spanRow_12 p0 n x1 x2 I = some (Iz) → sm_W sm_sh X (sm_C sm_sh X sm_P D) me_82 Q (12, [some (.ref p0), some (.int x1), some (.int x2), none], [], 0, 0) (I, J, sm_rf t d) := by
  intro n
  induction n with
  | zero => intro x1 x2 I h; cases (show (none : Option (sm_MI)) = some (Iz) from h)
  | succ n ih => intro x1 x2 I h; exact G_Valley_spanRow_12B hD hp (show F_Valley_spanRow_12B p0 (F_Valley_spanRow_12 p0 n) x1 x2 I = some (Iz) from h) hQ  ih
theorem G_Valley_spanRow {X : Nat × (Nat → Int32)} {t d D : Nat} {Q : sm_Q} {I : sm_MI} {J : sm_MJ} {p0 : Nat} {x1 : Int32} {Iz : sm_MI}
    (hD : 1 ≤ D) (hp : (p0 = 21) ∨ (p0 = 41)) (h : F_Valley_spanRow p0 x1 I = some (Iz)) (hQ : Q (.inl none) (Iz, J, sm_rf t d))  : sm_W sm_sh X (sm_C sm_sh X sm_P D) me_82 Q (0, [some (.ref p0), some (.int x1), none, none], [], 0, 0) (I, J, sm_rf t d) := by
  unfold F_Valley_spanRow at h
  rcases hp with rfl | rfl
  · skip
    obtain ⟨g1, h⟩ := sd_gu_go h
    refine sm_W.runL (sm_C_mono D) 5 (G := sm_in x1 20 = true ∧ True) (e := (sd_up I (21 + 9) (Int32.toNatClampNeg x1) (48 : Int32))) (fr' := fun _ => (5, [some (.ref 21), some (.int x1), none, none], [], 0, 0)) (M' := fun I2 => (I2, J, sm_rf t d)) rfl h ⟨g1, trivial⟩ (fun I2 h => ?_)
    obtain ⟨g3, h⟩ := sd_gu_go h
    refine sm_W.runL (sm_C_mono D) 5 (G := sm_in x1 20 = true ∧ True) (e := (sd_up I2 (21 + 10) (Int32.toNatClampNeg x1) (0 : Int32))) (fr' := fun _ => (10, [some (.ref 21), some (.int x1), none, none], [], 0, 0)) (M' := fun I4 => (I4, J, sm_rf t d)) rfl h ⟨g3, trivial⟩ (fun I4 h => ?_)
    refine sm_W.run (sm_C_mono D) 2 (G := True) (fr' := (12, [some (.ref 21), some (.int x1), some (.int (0 : Int32)), none], [], 0, 0)) (M' := (I4, J, sm_rf t d)) rfl trivial ?_
    exact (G_Valley_spanRow_12 hD (by decide) hQ sd_fu _ _ _ h)
  · skip
    obtain ⟨g1, h⟩ := sd_gu_go h
    refine sm_W.runL (sm_C_mono D) 5 (G := sm_in x1 20 = true ∧ True) (e := (sd_up I (41 + 9) (Int32.toNatClampNeg x1) (48 : Int32))) (fr' := fun _ => (5, [some (.ref 41), some (.int x1), none, none], [], 0, 0)) (M' := fun I2 => (I2, J, sm_rf t d)) rfl h ⟨g1, trivial⟩ (fun I2 h => ?_)
    obtain ⟨g3, h⟩ := sd_gu_go h
    refine sm_W.runL (sm_C_mono D) 5 (G := sm_in x1 20 = true ∧ True) (e := (sd_up I2 (41 + 10) (Int32.toNatClampNeg x1) (0 : Int32))) (fr' := fun _ => (10, [some (.ref 41), some (.int x1), none, none], [], 0, 0)) (M' := fun I4 => (I4, J, sm_rf t d)) rfl h ⟨g3, trivial⟩ (fun I4 h => ?_)
    refine sm_W.run (sm_C_mono D) 2 (G := True) (fr' := (12, [some (.ref 41), some (.int x1), some (.int (0 : Int32)), none], [], 0, 0)) (M' := (I4, J, sm_rf t d)) rfl trivial ?_
    exact (G_Valley_spanRow_12 hD (by decide) hQ sd_fu _ _ _ h)
theorem T_Valley_spanRow {X : Nat × (Nat → Int32)} {t d D : Nat} {Q : sm_Q} {I : sm_MI} {J : sm_MJ} {p0 : Nat} {x1 : Int32} {Iz : sm_MI}
    (hD : 2 ≤ D) (hp : (p0 = 21) ∨ (p0 = 41)) (h : F_Valley_spanRow p0 x1 I = some (Iz)) (hQ : Q (.inl none) (Iz, J, sm_rf t d)) : sm_C sm_sh X sm_P D 82 [.ref p0, .int x1] (I, J, sm_rf t d) Q := by
  cases D with
  | zero => omega
  | succ D => exact sm_C.of (me := me_82) (L := [some (.ref p0), some (.int x1), none, none]) rfl rfl rfl (sm_W.forget (L' := [some (.ref p0), some (.int x1), none, none]) ⟨rfl, ⟨rfl, trivial⟩⟩ (G_Valley_spanRow (by omega) hp h hQ))
-- 80 Valley_settle
noncomputable def F_Valley_settle_34B (p0 : Nat) (k34 : Int32 → sm_MI → Option (sm_MI)) (x1 : Int32) (I : sm_MI) : Option (sm_MI) :=
  if (20 : Int32) ≤ x1 then
    some (I)
  else
    sd_gu (sm_in x1 20 = true) <|
    if (I (p0 + 6) (Int32.toNatClampNeg x1)) ≤ 0 then
      k34 (x1 + (1 : Int32)) I
    else
      sd_q1 (F_Valley_spanRow p0 x1 I) fun I2 =>
      sd_gu (¬ (4 : Int32) = 0) <|
      sd_gu (sm_in (sd_mod x1 (4 : Int32)) 4 = true) <|
      sd_gu (sm_in x1 20 = true) <|
      sd_gu (sm_in x1 20 = true) <|
      sd_q1 (F_Valley_reaching p0 (I2 (p0 + 13) (Int32.toNatClampNeg (sd_mod x1 (4 : Int32)))) (I2 (p0 + 9) (Int32.toNatClampNeg x1)) (I2 (p0 + 10) (Int32.toNatClampNeg x1)) I2) fun r7 =>
      sd_gu (sm_in x1 20 = true) <|
      sd_lt (sd_up I2 (p0 + 11) (Int32.toNatClampNeg x1) r7) fun I9 =>
      k34 (x1 + (1 : Int32)) I9
noncomputable def F_Valley_settle_34 (p0 : Nat) (n : Nat) : Int32 → sm_MI → Option (sm_MI) :=
  sd_fix (fun k x1 I => F_Valley_settle_34B p0 k x1 I) (fun _ _ => none) n
noncomputable def F_Valley_settle_18B (p0 : Nat) (k18 : Int32 → sm_MI → Option (sm_MI)) (x1 : Int32) (I : sm_MI) : Option (sm_MI) :=
  if (4 : Int32) ≤ x1 then
    F_Valley_settle_34 p0 sd_fu (0 : Int32) I
  else
    sd_q1 (F_Valley_withValue p0 (p0 + 2) x1 I) fun r1 =>
    sd_gu (sm_in x1 4 = true) <|
    sd_lt (sd_up I (p0 + 13) (Int32.toNatClampNeg x1) r1) fun I3 =>
    k18 (x1 + (1 : Int32)) I3
noncomputable def F_Valley_settle_18 (p0 : Nat) (n : Nat) : Int32 → sm_MI → Option (sm_MI) :=
  sd_fix (fun k x1 I => F_Valley_settle_18B p0 k x1 I) (fun _ _ => none) n
noncomputable def F_Valley_settle_2B (p0 : Nat) (k2 : Int32 → sm_MI → Option (sm_MI)) (x1 : Int32) (I : sm_MI) : Option (sm_MI) :=
  if (3 : Int32) ≤ x1 then
    F_Valley_settle_18 p0 sd_fu (0 : Int32) I
  else
    sd_q1 (F_Valley_withValue p0 (p0 + 1) x1 I) fun r1 =>
    sd_gu (sm_in x1 3 = true) <|
    sd_lt (sd_up I (p0 + 12) (Int32.toNatClampNeg x1) r1) fun I3 =>
    k2 (x1 + (1 : Int32)) I3
noncomputable def F_Valley_settle_2 (p0 : Nat) (n : Nat) : Int32 → sm_MI → Option (sm_MI) :=
  sd_fix (fun k x1 I => F_Valley_settle_2B p0 k x1 I) (fun _ _ => none) n
noncomputable def F_Valley_settle (p0 : Nat) (I : sm_MI) : Option (sm_MI) :=
  F_Valley_settle_2 p0 sd_fu (0 : Int32) I
theorem G_Valley_settle_34B {X : Nat × (Nat → Int32)} {t d D : Nat} {Q : sm_Q} {I : sm_MI} {J : sm_MJ} {p0 : Nat} {k34 : Int32 → sm_MI → Option (sm_MI)} {x1 : Int32} {Iz : sm_MI}
    (hD : 2 ≤ D) (hp : (p0 = 21) ∨ (p0 = 41)) (h : F_Valley_settle_34B p0 k34 x1 I = some (Iz)) (hQ : Q (.inl none) (Iz, J, sm_rf t d)) (hk34 : ∀ (x1 : Int32) (I : sm_MI), k34 x1 I = some (Iz) → sm_W sm_sh X (sm_C sm_sh X sm_P D) me_80 Q (34, [some (.ref p0), some (.int x1)], [], 0, 0) (I, J, sm_rf t d)) : sm_W sm_sh X (sm_C sm_sh X sm_P D) me_80 Q (34, [some (.ref p0), some (.int x1)], [], 0, 0) (I, J, sm_rf t d) := by
  unfold F_Valley_settle_34B at h
  rcases hp with rfl | rfl
  · skip
    refine sm_W.run (sm_C_mono D) 3 (G := True) (fr' := (if decide ((20 : Int32) ≤ x1) = true then 67 else 37, [some (.ref 21), some (.int x1)], [], 0, 0)) (M' := (I, J, sm_rf t d)) rfl trivial (sm_W.iteD h (fun hc h => ?_) (fun hc h => ?_))
    · cases h
      exact sm_W.ret (sm_C_mono D) rfl hQ
    · obtain ⟨g1, h⟩ := sd_gu_go h
      refine sm_W.run (sm_C_mono D) 5 (G := sm_in x1 20 = true ∧ True) (fr' := (if decide ((I (21 + 6) (Int32.toNatClampNeg x1)) ≤ 0) = true then 65 else 42, [some (.ref 21), some (.int x1)], [], 0, 0)) (M' := (I, J, sm_rf t d)) rfl ⟨g1, trivial⟩ (sm_W.iteD h (fun hc h => ?_) (fun hc h => ?_))
      · refine sm_W.run (sm_C_mono D) 2 (G := True) (fr' := (34, [some (.ref 21), some (.int (x1 + (1 : Int32)))], [], 0, 0)) (M' := (I, J, sm_rf t d)) rfl trivial ?_
        exact (hk34 _ _ h)
      · refine sm_W.run (sm_C_mono D) 2 (G := True) (fr' := (44, [some (.ref 21), some (.int x1)], [.int x1, .ref 21], 0, 0)) (M' := (I, J, sm_rf t d)) rfl trivial ?_
        obtain ⟨I2, hc, h⟩ := sd_q1_go h
        refine sm_W.cal (sm_C_mono D) (y := 82) (as := [.ref 21, .int x1]) (fr' := (45, [some (.ref 21), some (.int x1)], [], 0, 0)) rfl (T_Valley_spanRow (by omega) (by decide) hc ?_)
        show sm_W sm_sh X (sm_C sm_sh X sm_P D) me_80 Q (45, [some (.ref 21), some (.int x1)], [], 0, 0) (I2, J, sm_rf t d)
        obtain ⟨g3, h⟩ := sd_gu_go h
        obtain ⟨g4, h⟩ := sd_gu_go h
        obtain ⟨g5, h⟩ := sd_gu_go h
        obtain ⟨g6, h⟩ := sd_gu_go h
        refine sm_W.run (sm_C_mono D) 18 (G := ¬ (4 : Int32) = 0 ∧ sm_in (sd_mod x1 (4 : Int32)) 4 = true ∧ sm_in x1 20 = true ∧ sm_in x1 20 = true ∧ True) (fr' := (63, [some (.ref 21), some (.int x1)], [.int (I2 (21 + 10) (Int32.toNatClampNeg x1)), .int (I2 (21 + 9) (Int32.toNatClampNeg x1)), .int (I2 (21 + 13) (Int32.toNatClampNeg (sd_mod x1 (4 : Int32)))), .ref 21, .int x1, .ref (21 + 11)], 0, 0)) (M' := (I2, J, sm_rf t d)) rfl ⟨g3, g4, g5, g6, trivial⟩ ?_
        obtain ⟨r7, hc, h⟩ := sd_q1_go h
        refine sm_W.cal (sm_C_mono D) (y := 85) (as := [.ref 21, .int (I2 (21 + 13) (Int32.toNatClampNeg (sd_mod x1 (4 : Int32)))), .int (I2 (21 + 9) (Int32.toNatClampNeg x1)), .int (I2 (21 + 10) (Int32.toNatClampNeg x1))]) (fr' := (64, [some (.ref 21), some (.int x1)], [.int x1, .ref (21 + 11)], 0, 0)) rfl (T_Valley_reaching (by omega) (by decide) hc ?_)
        show sm_W sm_sh X (sm_C sm_sh X sm_P D) me_80 Q (64, [some (.ref 21), some (.int x1)], [.int r7, .int x1, .ref (21 + 11)], 0, 0) (I2, J, sm_rf t d)
        obtain ⟨g8, h⟩ := sd_gu_go h
        refine sm_W.runL (sm_C_mono D) 1 (G := sm_in x1 20 = true ∧ True) (e := (sd_up I2 (21 + 11) (Int32.toNatClampNeg x1) r7)) (fr' := fun _ => (65, [some (.ref 21), some (.int x1)], [], 0, 0)) (M' := fun I9 => (I9, J, sm_rf t d)) rfl h ⟨g8, trivial⟩ (fun I9 h => ?_)
        refine sm_W.run (sm_C_mono D) 2 (G := True) (fr' := (34, [some (.ref 21), some (.int (x1 + (1 : Int32)))], [], 0, 0)) (M' := (I9, J, sm_rf t d)) rfl trivial ?_
        exact (hk34 _ _ h)
  · skip
    refine sm_W.run (sm_C_mono D) 3 (G := True) (fr' := (if decide ((20 : Int32) ≤ x1) = true then 67 else 37, [some (.ref 41), some (.int x1)], [], 0, 0)) (M' := (I, J, sm_rf t d)) rfl trivial (sm_W.iteD h (fun hc h => ?_) (fun hc h => ?_))
    · cases h
      exact sm_W.ret (sm_C_mono D) rfl hQ
    · obtain ⟨g1, h⟩ := sd_gu_go h
      refine sm_W.run (sm_C_mono D) 5 (G := sm_in x1 20 = true ∧ True) (fr' := (if decide ((I (41 + 6) (Int32.toNatClampNeg x1)) ≤ 0) = true then 65 else 42, [some (.ref 41), some (.int x1)], [], 0, 0)) (M' := (I, J, sm_rf t d)) rfl ⟨g1, trivial⟩ (sm_W.iteD h (fun hc h => ?_) (fun hc h => ?_))
      · refine sm_W.run (sm_C_mono D) 2 (G := True) (fr' := (34, [some (.ref 41), some (.int (x1 + (1 : Int32)))], [], 0, 0)) (M' := (I, J, sm_rf t d)) rfl trivial ?_
        exact (hk34 _ _ h)
      · refine sm_W.run (sm_C_mono D) 2 (G := True) (fr' := (44, [some (.ref 41), some (.int x1)], [.int x1, .ref 41], 0, 0)) (M' := (I, J, sm_rf t d)) rfl trivial ?_
        obtain ⟨I2, hc, h⟩ := sd_q1_go h
        refine sm_W.cal (sm_C_mono D) (y := 82) (as := [.ref 41, .int x1]) (fr' := (45, [some (.ref 41), some (.int x1)], [], 0, 0)) rfl (T_Valley_spanRow (by omega) (by decide) hc ?_)
        show sm_W sm_sh X (sm_C sm_sh X sm_P D) me_80 Q (45, [some (.ref 41), some (.int x1)], [], 0, 0) (I2, J, sm_rf t d)
        obtain ⟨g3, h⟩ := sd_gu_go h
        obtain ⟨g4, h⟩ := sd_gu_go h
        obtain ⟨g5, h⟩ := sd_gu_go h
        obtain ⟨g6, h⟩ := sd_gu_go h
        refine sm_W.run (sm_C_mono D) 18 (G := ¬ (4 : Int32) = 0 ∧ sm_in (sd_mod x1 (4 : Int32)) 4 = true ∧ sm_in x1 20 = true ∧ sm_in x1 20 = true ∧ True) (fr' := (63, [some (.ref 41), some (.int x1)], [.int (I2 (41 + 10) (Int32.toNatClampNeg x1)), .int (I2 (41 + 9) (Int32.toNatClampNeg x1)), .int (I2 (41 + 13) (Int32.toNatClampNeg (sd_mod x1 (4 : Int32)))), .ref 41, .int x1, .ref (41 + 11)], 0, 0)) (M' := (I2, J, sm_rf t d)) rfl ⟨g3, g4, g5, g6, trivial⟩ ?_
        obtain ⟨r7, hc, h⟩ := sd_q1_go h
        refine sm_W.cal (sm_C_mono D) (y := 85) (as := [.ref 41, .int (I2 (41 + 13) (Int32.toNatClampNeg (sd_mod x1 (4 : Int32)))), .int (I2 (41 + 9) (Int32.toNatClampNeg x1)), .int (I2 (41 + 10) (Int32.toNatClampNeg x1))]) (fr' := (64, [some (.ref 41), some (.int x1)], [.int x1, .ref (41 + 11)], 0, 0)) rfl (T_Valley_reaching (by omega) (by decide) hc ?_)
        show sm_W sm_sh X (sm_C sm_sh X sm_P D) me_80 Q (64, [some (.ref 41), some (.int x1)], [.int r7, .int x1, .ref (41 + 11)], 0, 0) (I2, J, sm_rf t d)
        obtain ⟨g8, h⟩ := sd_gu_go h
        refine sm_W.runL (sm_C_mono D) 1 (G := sm_in x1 20 = true ∧ True) (e := (sd_up I2 (41 + 11) (Int32.toNatClampNeg x1) r7)) (fr' := fun _ => (65, [some (.ref 41), some (.int x1)], [], 0, 0)) (M' := fun I9 => (I9, J, sm_rf t d)) rfl h ⟨g8, trivial⟩ (fun I9 h => ?_)
        refine sm_W.run (sm_C_mono D) 2 (G := True) (fr' := (34, [some (.ref 41), some (.int (x1 + (1 : Int32)))], [], 0, 0)) (M' := (I9, J, sm_rf t d)) rfl trivial ?_
        exact (hk34 _ _ h)
theorem G_Valley_settle_34 {X : Nat × (Nat → Int32)} {t d D : Nat} {Q : sm_Q} {J : sm_MJ} {p0 : Nat} {Iz : sm_MI}
    (hD : 2 ≤ D) (hp : (p0 = 21) ∨ (p0 = 41)) (hQ : Q (.inl none) (Iz, J, sm_rf t d))  : ∀ (n : Nat) (x1 : Int32) (I : sm_MI), F_Valley_settle_34 p0 n x1 I = some (Iz) → sm_W sm_sh X (sm_C sm_sh X sm_P D) me_80 Q (34, [some (.ref p0), some (.int x1)], [], 0, 0) (I, J, sm_rf t d) := by
  intro n
  induction n with
  | zero => intro x1 I h; cases (show (none : Option (sm_MI)) = some (Iz) from h)
  | succ n ih => intro x1 I h; exact G_Valley_settle_34B hD hp (show F_Valley_settle_34B p0 (F_Valley_settle_34 p0 n) x1 I = some (Iz) from h) hQ  ih
theorem G_Valley_settle_18B {X : Nat × (Nat → Int32)} {t d D : Nat} {Q : sm_Q} {I : sm_MI} {J : sm_MJ} {p0 : Nat} {k18 : Int32 → sm_MI → Option (sm_MI)} {x1 : Int32} {Iz : sm_MI}
    (hD : 2 ≤ D) (hp : (p0 = 21) ∨ (p0 = 41)) (h : F_Valley_settle_18B p0 k18 x1 I = some (Iz)) (hQ : Q (.inl none) (Iz, J, sm_rf t d)) (hk18 : ∀ (x1 : Int32) (I : sm_MI), k18 x1 I = some (Iz) → sm_W sm_sh X (sm_C sm_sh X sm_P D) me_80 Q (18, [some (.ref p0), some (.int x1)], [], 0, 0) (I, J, sm_rf t d)) : sm_W sm_sh X (sm_C sm_sh X sm_P D) me_80 Q (18, [some (.ref p0), some (.int x1)], [], 0, 0) (I, J, sm_rf t d) := by
  unfold F_Valley_settle_18B at h
  rcases hp with rfl | rfl
  · skip
    refine sm_W.run (sm_C_mono D) 3 (G := True) (fr' := (if decide ((4 : Int32) ≤ x1) = true then 32 else 21, [some (.ref 21), some (.int x1)], [], 0, 0)) (M' := (I, J, sm_rf t d)) rfl trivial (sm_W.iteD h (fun hc h => ?_) (fun hc h => ?_))
    · refine sm_W.run (sm_C_mono D) 2 (G := True) (fr' := (34, [some (.ref 21), some (.int (0 : Int32))], [], 0, 0)) (M' := (I, J, sm_rf t d)) rfl trivial ?_
      exact (G_Valley_settle_34 hD (by decide) hQ sd_fu _ _ h)
    · refine sm_W.run (sm_C_mono D) 7 (G := True) (fr' := (28, [some (.ref 21), some (.int x1)], [.int x1, .ref (21 + 2), .ref 21, .int x1, .ref (21 + 13)], 0, 0)) (M' := (I, J, sm_rf t d)) rfl trivial ?_
      obtain ⟨r1, hc, h⟩ := sd_q1_go h
      refine sm_W.cal (sm_C_mono D) (y := 81) (as := [.ref 21, .ref (21 + 2), .int x1]) (fr' := (29, [some (.ref 21), some (.int x1)], [.int x1, .ref (21 + 13)], 0, 0)) rfl (T_Valley_withValue (by omega) (by decide) hc ?_)
      show sm_W sm_sh X (sm_C sm_sh X sm_P D) me_80 Q (29, [some (.ref 21), some (.int x1)], [.int r1, .int x1, .ref (21 + 13)], 0, 0) (I, J, sm_rf t d)
      obtain ⟨g2, h⟩ := sd_gu_go h
      refine sm_W.runL (sm_C_mono D) 1 (G := sm_in x1 4 = true ∧ True) (e := (sd_up I (21 + 13) (Int32.toNatClampNeg x1) r1)) (fr' := fun _ => (30, [some (.ref 21), some (.int x1)], [], 0, 0)) (M' := fun I3 => (I3, J, sm_rf t d)) rfl h ⟨g2, trivial⟩ (fun I3 h => ?_)
      refine sm_W.run (sm_C_mono D) 2 (G := True) (fr' := (18, [some (.ref 21), some (.int (x1 + (1 : Int32)))], [], 0, 0)) (M' := (I3, J, sm_rf t d)) rfl trivial ?_
      exact (hk18 _ _ h)
  · skip
    refine sm_W.run (sm_C_mono D) 3 (G := True) (fr' := (if decide ((4 : Int32) ≤ x1) = true then 32 else 21, [some (.ref 41), some (.int x1)], [], 0, 0)) (M' := (I, J, sm_rf t d)) rfl trivial (sm_W.iteD h (fun hc h => ?_) (fun hc h => ?_))
    · refine sm_W.run (sm_C_mono D) 2 (G := True) (fr' := (34, [some (.ref 41), some (.int (0 : Int32))], [], 0, 0)) (M' := (I, J, sm_rf t d)) rfl trivial ?_
      exact (G_Valley_settle_34 hD (by decide) hQ sd_fu _ _ h)
    · refine sm_W.run (sm_C_mono D) 7 (G := True) (fr' := (28, [some (.ref 41), some (.int x1)], [.int x1, .ref (41 + 2), .ref 41, .int x1, .ref (41 + 13)], 0, 0)) (M' := (I, J, sm_rf t d)) rfl trivial ?_
      obtain ⟨r1, hc, h⟩ := sd_q1_go h
      refine sm_W.cal (sm_C_mono D) (y := 81) (as := [.ref 41, .ref (41 + 2), .int x1]) (fr' := (29, [some (.ref 41), some (.int x1)], [.int x1, .ref (41 + 13)], 0, 0)) rfl (T_Valley_withValue (by omega) (by decide) hc ?_)
      show sm_W sm_sh X (sm_C sm_sh X sm_P D) me_80 Q (29, [some (.ref 41), some (.int x1)], [.int r1, .int x1, .ref (41 + 13)], 0, 0) (I, J, sm_rf t d)
      obtain ⟨g2, h⟩ := sd_gu_go h
      refine sm_W.runL (sm_C_mono D) 1 (G := sm_in x1 4 = true ∧ True) (e := (sd_up I (41 + 13) (Int32.toNatClampNeg x1) r1)) (fr' := fun _ => (30, [some (.ref 41), some (.int x1)], [], 0, 0)) (M' := fun I3 => (I3, J, sm_rf t d)) rfl h ⟨g2, trivial⟩ (fun I3 h => ?_)
      refine sm_W.run (sm_C_mono D) 2 (G := True) (fr' := (18, [some (.ref 41), some (.int (x1 + (1 : Int32)))], [], 0, 0)) (M' := (I3, J, sm_rf t d)) rfl trivial ?_
      exact (hk18 _ _ h)
theorem G_Valley_settle_18 {X : Nat × (Nat → Int32)} {t d D : Nat} {Q : sm_Q} {J : sm_MJ} {p0 : Nat} {Iz : sm_MI}
    (hD : 2 ≤ D) (hp : (p0 = 21) ∨ (p0 = 41)) (hQ : Q (.inl none) (Iz, J, sm_rf t d))  : ∀ (n : Nat) (x1 : Int32) (I : sm_MI), F_Valley_settle_18 p0 n x1 I = some (Iz) → sm_W sm_sh X (sm_C sm_sh X sm_P D) me_80 Q (18, [some (.ref p0), some (.int x1)], [], 0, 0) (I, J, sm_rf t d) := by
  intro n
  induction n with
  | zero => intro x1 I h; cases (show (none : Option (sm_MI)) = some (Iz) from h)
  | succ n ih => intro x1 I h; exact G_Valley_settle_18B hD hp (show F_Valley_settle_18B p0 (F_Valley_settle_18 p0 n) x1 I = some (Iz) from h) hQ  ih
theorem G_Valley_settle_2B {X : Nat × (Nat → Int32)} {t d D : Nat} {Q : sm_Q} {I : sm_MI} {J : sm_MJ} {p0 : Nat} {k2 : Int32 → sm_MI → Option (sm_MI)} {x1 : Int32} {Iz : sm_MI}
    (hD : 2 ≤ D) (hp : (p0 = 21) ∨ (p0 = 41)) (h : F_Valley_settle_2B p0 k2 x1 I = some (Iz)) (hQ : Q (.inl none) (Iz, J, sm_rf t d)) (hk2 : ∀ (x1 : Int32) (I : sm_MI), k2 x1 I = some (Iz) → sm_W sm_sh X (sm_C sm_sh X sm_P D) me_80 Q (2, [some (.ref p0), some (.int x1)], [], 0, 0) (I, J, sm_rf t d)) : sm_W sm_sh X (sm_C sm_sh X sm_P D) me_80 Q (2, [some (.ref p0), some (.int x1)], [], 0, 0) (I, J, sm_rf t d) := by
  unfold F_Valley_settle_2B at h
  rcases hp with rfl | rfl
  · skip
    refine sm_W.run (sm_C_mono D) 3 (G := True) (fr' := (if decide ((3 : Int32) ≤ x1) = true then 16 else 5, [some (.ref 21), some (.int x1)], [], 0, 0)) (M' := (I, J, sm_rf t d)) rfl trivial (sm_W.iteD h (fun hc h => ?_) (fun hc h => ?_))
    · refine sm_W.run (sm_C_mono D) 2 (G := True) (fr' := (18, [some (.ref 21), some (.int (0 : Int32))], [], 0, 0)) (M' := (I, J, sm_rf t d)) rfl trivial ?_
      exact (G_Valley_settle_18 hD (by decide) hQ sd_fu _ _ h)
    · refine sm_W.run (sm_C_mono D) 7 (G := True) (fr' := (12, [some (.ref 21), some (.int x1)], [.int x1, .ref (21 + 1), .ref 21, .int x1, .ref (21 + 12)], 0, 0)) (M' := (I, J, sm_rf t d)) rfl trivial ?_
      obtain ⟨r1, hc, h⟩ := sd_q1_go h
      refine sm_W.cal (sm_C_mono D) (y := 81) (as := [.ref 21, .ref (21 + 1), .int x1]) (fr' := (13, [some (.ref 21), some (.int x1)], [.int x1, .ref (21 + 12)], 0, 0)) rfl (T_Valley_withValue (by omega) (by decide) hc ?_)
      show sm_W sm_sh X (sm_C sm_sh X sm_P D) me_80 Q (13, [some (.ref 21), some (.int x1)], [.int r1, .int x1, .ref (21 + 12)], 0, 0) (I, J, sm_rf t d)
      obtain ⟨g2, h⟩ := sd_gu_go h
      refine sm_W.runL (sm_C_mono D) 1 (G := sm_in x1 3 = true ∧ True) (e := (sd_up I (21 + 12) (Int32.toNatClampNeg x1) r1)) (fr' := fun _ => (14, [some (.ref 21), some (.int x1)], [], 0, 0)) (M' := fun I3 => (I3, J, sm_rf t d)) rfl h ⟨g2, trivial⟩ (fun I3 h => ?_)
      refine sm_W.run (sm_C_mono D) 2 (G := True) (fr' := (2, [some (.ref 21), some (.int (x1 + (1 : Int32)))], [], 0, 0)) (M' := (I3, J, sm_rf t d)) rfl trivial ?_
      exact (hk2 _ _ h)
  · skip
    refine sm_W.run (sm_C_mono D) 3 (G := True) (fr' := (if decide ((3 : Int32) ≤ x1) = true then 16 else 5, [some (.ref 41), some (.int x1)], [], 0, 0)) (M' := (I, J, sm_rf t d)) rfl trivial (sm_W.iteD h (fun hc h => ?_) (fun hc h => ?_))
    · refine sm_W.run (sm_C_mono D) 2 (G := True) (fr' := (18, [some (.ref 41), some (.int (0 : Int32))], [], 0, 0)) (M' := (I, J, sm_rf t d)) rfl trivial ?_
      exact (G_Valley_settle_18 hD (by decide) hQ sd_fu _ _ h)
    · refine sm_W.run (sm_C_mono D) 7 (G := True) (fr' := (12, [some (.ref 41), some (.int x1)], [.int x1, .ref (41 + 1), .ref 41, .int x1, .ref (41 + 12)], 0, 0)) (M' := (I, J, sm_rf t d)) rfl trivial ?_
      obtain ⟨r1, hc, h⟩ := sd_q1_go h
      refine sm_W.cal (sm_C_mono D) (y := 81) (as := [.ref 41, .ref (41 + 1), .int x1]) (fr' := (13, [some (.ref 41), some (.int x1)], [.int x1, .ref (41 + 12)], 0, 0)) rfl (T_Valley_withValue (by omega) (by decide) hc ?_)
      show sm_W sm_sh X (sm_C sm_sh X sm_P D) me_80 Q (13, [some (.ref 41), some (.int x1)], [.int r1, .int x1, .ref (41 + 12)], 0, 0) (I, J, sm_rf t d)
      obtain ⟨g2, h⟩ := sd_gu_go h
      refine sm_W.runL (sm_C_mono D) 1 (G := sm_in x1 3 = true ∧ True) (e := (sd_up I (41 + 12) (Int32.toNatClampNeg x1) r1)) (fr' := fun _ => (14, [some (.ref 41), some (.int x1)], [], 0, 0)) (M' := fun I3 => (I3, J, sm_rf t d)) rfl h ⟨g2, trivial⟩ (fun I3 h => ?_)
      refine sm_W.run (sm_C_mono D) 2 (G := True) (fr' := (2, [some (.ref 41), some (.int (x1 + (1 : Int32)))], [], 0, 0)) (M' := (I3, J, sm_rf t d)) rfl trivial ?_
      exact (hk2 _ _ h)
theorem G_Valley_settle_2 {X : Nat × (Nat → Int32)} {t d D : Nat} {Q : sm_Q} {J : sm_MJ} {p0 : Nat} {Iz : sm_MI}
    (hD : 2 ≤ D) (hp : (p0 = 21) ∨ (p0 = 41)) (hQ : Q (.inl none) (Iz, J, sm_rf t d))  : ∀ (n : Nat) (x1 : Int32) (I : sm_MI), F_Valley_settle_2 p0 n x1 I = some (Iz) → sm_W sm_sh X (sm_C sm_sh X sm_P D) me_80 Q (2, [some (.ref p0), some (.int x1)], [], 0, 0) (I, J, sm_rf t d) := by
  intro n
  induction n with
  | zero => intro x1 I h; cases (show (none : Option (sm_MI)) = some (Iz) from h)
  | succ n ih => intro x1 I h; exact G_Valley_settle_2B hD hp (show F_Valley_settle_2B p0 (F_Valley_settle_2 p0 n) x1 I = some (Iz) from h) hQ  ih
theorem G_Valley_settle {X : Nat × (Nat → Int32)} {t d D : Nat} {Q : sm_Q} {I : sm_MI} {J : sm_MJ} {p0 : Nat} {Iz : sm_MI}
    (hD : 2 ≤ D) (hp : (p0 = 21) ∨ (p0 = 41)) (h : F_Valley_settle p0 I = some (Iz)) (hQ : Q (.inl none) (Iz, J, sm_rf t d))  : sm_W sm_sh X (sm_C sm_sh X sm_P D) me_80 Q (0, [some (.ref p0), none], [], 0, 0) (I, J, sm_rf t d) := by
  unfold F_Valley_settle at h
  rcases hp with rfl | rfl
  · skip
    refine sm_W.run (sm_C_mono D) 2 (G := True) (fr' := (2, [some (.ref 21), some (.int (0 : Int32))], [], 0, 0)) (M' := (I, J, sm_rf t d)) rfl trivial ?_
    exact (G_Valley_settle_2 hD (by decide) hQ sd_fu _ _ h)
  · skip
    refine sm_W.run (sm_C_mono D) 2 (G := True) (fr' := (2, [some (.ref 41), some (.int (0 : Int32))], [], 0, 0)) (M' := (I, J, sm_rf t d)) rfl trivial ?_
    exact (G_Valley_settle_2 hD (by decide) hQ sd_fu _ _ h)
theorem T_Valley_settle {X : Nat × (Nat → Int32)} {t d D : Nat} {Q : sm_Q} {I : sm_MI} {J : sm_MJ} {p0 : Nat} {Iz : sm_MI}
    (hD : 3 ≤ D) (hp : (p0 = 21) ∨ (p0 = 41)) (h : F_Valley_settle p0 I = some (Iz)) (hQ : Q (.inl none) (Iz, J, sm_rf t d)) : sm_C sm_sh X sm_P D 80 [.ref p0] (I, J, sm_rf t d) Q := by
  cases D with
  | zero => omega
  | succ D => exact sm_C.of (me := me_80) (L := [some (.ref p0), none]) rfl rfl rfl (sm_W.forget (L' := [some (.ref p0), none]) ⟨rfl, trivial⟩ (G_Valley_settle (by omega) hp h hQ))
-- 26 Reader_read
noncomputable def F_Reader_read_39 (p1 : Nat) (I : sm_MI) : Option (Int32 × sm_MI) :=
  sd_q1 (F_Valley_settle p1 I) fun I1 =>
  some ((0 : Int32), I1)
noncomputable def F_Reader_read_23B (p1 : Nat) (k23 : Int32 → sm_MI → Option (Int32 × sm_MI)) (x3 : Int32) (I : sm_MI) : Option (Int32 × sm_MI) :=
  if (700 : Int32) ≤ x3 then
    F_Reader_read_39 p1 I
  else
    if (I 3 2) = (33 : Int32) then
      F_Reader_read_39 p1 I
    else
      sd_q2 (F_Reader_readLine p1 I) fun r1 I2 =>
      if ¬ r1 = 0 then
        k23 (x3 + (1 : Int32)) I2
      else
        some ((I2 3 7), I2)
noncomputable def F_Reader_read_23 (p1 : Nat) (n : Nat) : Int32 → sm_MI → Option (Int32 × sm_MI) :=
  sd_fix (fun k x3 I => F_Reader_read_23B p1 k x3 I) (fun _ _ => none) n
noncomputable def F_Reader_read (p1 : Nat) (x1 : Int32) (I : sm_MI) : Option (Int32 × sm_MI) :=
  sd_q1 (F_Tape_scan x1 I) fun I1 =>
  sd_lt (sd_up I1 3 1 (0 : Int32)) fun I2 =>
  sd_q1 (F_Tape_kindOf (0 : Int32) I2) fun r3 =>
  sd_lt (sd_up I2 3 2 r3) fun I4 =>
  sd_lt (sd_up I4 3 4 (0 : Int32)) fun I5 =>
  sd_lt (sd_up I5 3 7 (0 : Int32)) fun I6 =>
  sd_q1 (F_Valley_clear p1 I6) fun I7 =>
  F_Reader_read_23 p1 sd_fu (0 : Int32) I7
theorem G_Reader_read_39 {X : Nat × (Nat → Int32)} {t d D : Nat} {Q : sm_Q} {I : sm_MI} {J : sm_MJ} {p1 : Nat} {rz : Int32} {Iz : sm_MI}
    (hD : 68 ≤ D) (hp : (p1 = 21) ∨ (p1 = 41)) (h : F_Reader_read_39 p1 I = some (rz, Iz)) (hQ : Q (.inl (some (.int rz))) (Iz, J, sm_rf t d))  : sm_W sm_sh X (sm_C sm_sh X sm_P D) me_26 Q (39, [none, none, some (.ref p1), none], [], 0, 0) (I, J, sm_rf t d) := by
  unfold F_Reader_read_39 at h
  rcases hp with rfl | rfl
  · skip
    refine sm_W.run (sm_C_mono D) 1 (G := True) (fr' := (40, [none, none, some (.ref 21), none], [.ref 21], 0, 0)) (M' := (I, J, sm_rf t d)) rfl trivial ?_
    obtain ⟨I1, hc, h⟩ := sd_q1_go h
    refine sm_W.cal (sm_C_mono D) (y := 80) (as := [.ref 21]) (fr' := (41, [none, none, some (.ref 21), none], [], 0, 0)) rfl (T_Valley_settle (by omega) (by decide) hc ?_)
    show sm_W sm_sh X (sm_C sm_sh X sm_P D) me_26 Q (41, [none, none, some (.ref 21), none], [], 0, 0) (I1, J, sm_rf t d)
    refine sm_W.run (sm_C_mono D) 1 (G := True) (fr' := (42, [none, none, some (.ref 21), none], [.int (0 : Int32)], 0, 0)) (M' := (I1, J, sm_rf t d)) rfl trivial ?_
    cases h
    exact sm_W.ret (sm_C_mono D) rfl hQ
  · skip
    refine sm_W.run (sm_C_mono D) 1 (G := True) (fr' := (40, [none, none, some (.ref 41), none], [.ref 41], 0, 0)) (M' := (I, J, sm_rf t d)) rfl trivial ?_
    obtain ⟨I1, hc, h⟩ := sd_q1_go h
    refine sm_W.cal (sm_C_mono D) (y := 80) (as := [.ref 41]) (fr' := (41, [none, none, some (.ref 41), none], [], 0, 0)) rfl (T_Valley_settle (by omega) (by decide) hc ?_)
    show sm_W sm_sh X (sm_C sm_sh X sm_P D) me_26 Q (41, [none, none, some (.ref 41), none], [], 0, 0) (I1, J, sm_rf t d)
    refine sm_W.run (sm_C_mono D) 1 (G := True) (fr' := (42, [none, none, some (.ref 41), none], [.int (0 : Int32)], 0, 0)) (M' := (I1, J, sm_rf t d)) rfl trivial ?_
    cases h
    exact sm_W.ret (sm_C_mono D) rfl hQ
theorem G_Reader_read_23B {X : Nat × (Nat → Int32)} {t d D : Nat} {Q : sm_Q} {I : sm_MI} {J : sm_MJ} {p1 : Nat} {k23 : Int32 → sm_MI → Option (Int32 × sm_MI)} {x3 : Int32} {rz : Int32} {Iz : sm_MI}
    (hD : 68 ≤ D) (hp : (p1 = 21) ∨ (p1 = 41)) (h : F_Reader_read_23B p1 k23 x3 I = some (rz, Iz)) (hQ : Q (.inl (some (.int rz))) (Iz, J, sm_rf t d)) (hk23 : ∀ (x3 : Int32) (I : sm_MI), k23 x3 I = some (rz, Iz) → sm_W sm_sh X (sm_C sm_sh X sm_P D) me_26 Q (23, [some (.ref 3), none, some (.ref p1), some (.int x3)], [], 0, 0) (I, J, sm_rf t d)) : sm_W sm_sh X (sm_C sm_sh X sm_P D) me_26 Q (23, [some (.ref 3), none, some (.ref p1), some (.int x3)], [], 0, 0) (I, J, sm_rf t d) := by
  unfold F_Reader_read_23B at h
  rcases hp with rfl | rfl
  · skip
    refine sm_W.run (sm_C_mono D) 3 (G := True) (fr' := (if decide ((700 : Int32) ≤ x3) = true then 39 else 26, [some (.ref 3), none, some (.ref 21), some (.int x3)], [], 0, 0)) (M' := (I, J, sm_rf t d)) rfl trivial (sm_W.iteD h (fun hc h => ?_) (fun hc h => ?_))
    · exact sm_W.forget (L' := [none, none, some (.ref 21), none]) ⟨rfl, trivial⟩ (G_Reader_read_39 hD (by decide) h hQ)
    · refine sm_W.run (sm_C_mono D) 4 (G := True) (fr' := (if decide ((I 3 2) = (33 : Int32)) = true then 39 else 30, [some (.ref 3), none, some (.ref 21), some (.int x3)], [], 0, 0)) (M' := (I, J, sm_rf t d)) rfl trivial (sm_W.iteD h (fun hc h => ?_) (fun hc h => ?_))
      · exact sm_W.forget (L' := [none, none, some (.ref 21), none]) ⟨rfl, trivial⟩ (G_Reader_read_39 hD (by decide) h hQ)
      · refine sm_W.run (sm_C_mono D) 2 (G := True) (fr' := (32, [some (.ref 3), none, some (.ref 21), some (.int x3)], [.ref 21, .ref 3], 0, 0)) (M' := (I, J, sm_rf t d)) rfl trivial ?_
        obtain ⟨r1, I2, hc, h⟩ := sd_q2_go h
        refine sm_W.cal (sm_C_mono D) (y := 34) (as := [.ref 3, .ref 21]) (fr' := (33, [some (.ref 3), none, some (.ref 21), some (.int x3)], [], 0, 0)) rfl (T_Reader_readLine (by omega) (by decide) hc ?_)
        show sm_W sm_sh X (sm_C sm_sh X sm_P D) me_26 Q (33, [some (.ref 3), none, some (.ref 21), some (.int x3)], [.int r1], 0, 0) (I2, J, sm_rf t d)
        refine sm_W.run (sm_C_mono D) 1 (G := True) (fr' := (if decide (¬ r1 = 0) = true then 37 else 34, [some (.ref 3), none, some (.ref 21), some (.int x3)], [], 0, 0)) (M' := (I2, J, sm_rf t d)) rfl trivial (sm_W.iteD h (fun hc h => ?_) (fun hc h => ?_))
        · refine sm_W.run (sm_C_mono D) 2 (G := True) (fr' := (23, [some (.ref 3), none, some (.ref 21), some (.int (x3 + (1 : Int32)))], [], 0, 0)) (M' := (I2, J, sm_rf t d)) rfl trivial ?_
          exact (hk23 _ _ h)
        · refine sm_W.run (sm_C_mono D) 2 (G := True) (fr' := (36, [some (.ref 3), none, some (.ref 21), some (.int x3)], [.int (I2 3 7)], 0, 0)) (M' := (I2, J, sm_rf t d)) rfl trivial ?_
          cases h
          exact sm_W.ret (sm_C_mono D) rfl hQ
  · skip
    refine sm_W.run (sm_C_mono D) 3 (G := True) (fr' := (if decide ((700 : Int32) ≤ x3) = true then 39 else 26, [some (.ref 3), none, some (.ref 41), some (.int x3)], [], 0, 0)) (M' := (I, J, sm_rf t d)) rfl trivial (sm_W.iteD h (fun hc h => ?_) (fun hc h => ?_))
    · exact sm_W.forget (L' := [none, none, some (.ref 41), none]) ⟨rfl, trivial⟩ (G_Reader_read_39 hD (by decide) h hQ)
    · refine sm_W.run (sm_C_mono D) 4 (G := True) (fr' := (if decide ((I 3 2) = (33 : Int32)) = true then 39 else 30, [some (.ref 3), none, some (.ref 41), some (.int x3)], [], 0, 0)) (M' := (I, J, sm_rf t d)) rfl trivial (sm_W.iteD h (fun hc h => ?_) (fun hc h => ?_))
      · exact sm_W.forget (L' := [none, none, some (.ref 41), none]) ⟨rfl, trivial⟩ (G_Reader_read_39 hD (by decide) h hQ)
      · refine sm_W.run (sm_C_mono D) 2 (G := True) (fr' := (32, [some (.ref 3), none, some (.ref 41), some (.int x3)], [.ref 41, .ref 3], 0, 0)) (M' := (I, J, sm_rf t d)) rfl trivial ?_
        obtain ⟨r1, I2, hc, h⟩ := sd_q2_go h
        refine sm_W.cal (sm_C_mono D) (y := 34) (as := [.ref 3, .ref 41]) (fr' := (33, [some (.ref 3), none, some (.ref 41), some (.int x3)], [], 0, 0)) rfl (T_Reader_readLine (by omega) (by decide) hc ?_)
        show sm_W sm_sh X (sm_C sm_sh X sm_P D) me_26 Q (33, [some (.ref 3), none, some (.ref 41), some (.int x3)], [.int r1], 0, 0) (I2, J, sm_rf t d)
        refine sm_W.run (sm_C_mono D) 1 (G := True) (fr' := (if decide (¬ r1 = 0) = true then 37 else 34, [some (.ref 3), none, some (.ref 41), some (.int x3)], [], 0, 0)) (M' := (I2, J, sm_rf t d)) rfl trivial (sm_W.iteD h (fun hc h => ?_) (fun hc h => ?_))
        · refine sm_W.run (sm_C_mono D) 2 (G := True) (fr' := (23, [some (.ref 3), none, some (.ref 41), some (.int (x3 + (1 : Int32)))], [], 0, 0)) (M' := (I2, J, sm_rf t d)) rfl trivial ?_
          exact (hk23 _ _ h)
        · refine sm_W.run (sm_C_mono D) 2 (G := True) (fr' := (36, [some (.ref 3), none, some (.ref 41), some (.int x3)], [.int (I2 3 7)], 0, 0)) (M' := (I2, J, sm_rf t d)) rfl trivial ?_
          cases h
          exact sm_W.ret (sm_C_mono D) rfl hQ
theorem G_Reader_read_23 {X : Nat × (Nat → Int32)} {t d D : Nat} {Q : sm_Q} {J : sm_MJ} {p1 : Nat} {rz : Int32} {Iz : sm_MI}
    (hD : 68 ≤ D) (hp : (p1 = 21) ∨ (p1 = 41)) (hQ : Q (.inl (some (.int rz))) (Iz, J, sm_rf t d))  : ∀ (n : Nat) (x3 : Int32) (I : sm_MI), F_Reader_read_23 p1 n x3 I = some (rz, Iz) → sm_W sm_sh X (sm_C sm_sh X sm_P D) me_26 Q (23, [some (.ref 3), none, some (.ref p1), some (.int x3)], [], 0, 0) (I, J, sm_rf t d) := by
  intro n
  induction n with
  | zero => intro x3 I h; cases (show (none : Option (Int32 × sm_MI)) = some (rz, Iz) from h)
  | succ n ih => intro x3 I h; exact G_Reader_read_23B hD hp (show F_Reader_read_23B p1 (F_Reader_read_23 p1 n) x3 I = some (rz, Iz) from h) hQ  ih
theorem G_Reader_read {X : Nat × (Nat → Int32)} {t d D : Nat} {Q : sm_Q} {I : sm_MI} {J : sm_MJ} {p1 : Nat} {x1 : Int32} {rz : Int32} {Iz : sm_MI}
    (hD : 68 ≤ D) (hp : (p1 = 21) ∨ (p1 = 41)) (h : F_Reader_read p1 x1 I = some (rz, Iz)) (hQ : Q (.inl (some (.int rz))) (Iz, J, sm_rf t d))  : sm_W sm_sh X (sm_C sm_sh X sm_P D) me_26 Q (0, [some (.ref 3), some (.int x1), some (.ref p1), none], [], 0, 0) (I, J, sm_rf t d) := by
  unfold F_Reader_read at h
  rcases hp with rfl | rfl
  · skip
    refine sm_W.run (sm_C_mono D) 3 (G := True) (fr' := (3, [some (.ref 3), some (.int x1), some (.ref 21), none], [.int x1, .ref 4], 0, 0)) (M' := (I, J, sm_rf t d)) rfl trivial ?_
    obtain ⟨I1, hc, h⟩ := sd_q1_go h
    refine sm_W.cal (sm_C_mono D) (y := 69) (as := [.ref 4, .int x1]) (fr' := (4, [some (.ref 3), some (.int x1), some (.ref 21), none], [], 0, 0)) rfl (T_Tape_scan (by omega) hc ?_)
    show sm_W sm_sh X (sm_C sm_sh X sm_P D) me_26 Q (4, [some (.ref 3), some (.int x1), some (.ref 21), none], [], 0, 0) (I1, J, sm_rf t d)
    refine sm_W.runL (sm_C_mono D) 3 (G := True) (e := (sd_up I1 3 1 (0 : Int32))) (fr' := fun _ => (7, [some (.ref 3), some (.int x1), some (.ref 21), none], [], 0, 0)) (M' := fun I2 => (I2, J, sm_rf t d)) rfl h trivial (fun I2 h => ?_)
    refine sm_W.run (sm_C_mono D) 4 (G := True) (fr' := (11, [some (.ref 3), some (.int x1), some (.ref 21), none], [.int (0 : Int32), .ref 4, .ref 3], 0, 0)) (M' := (I2, J, sm_rf t d)) rfl trivial ?_
    obtain ⟨r3, hc, h⟩ := sd_q1_go h
    refine sm_W.cal (sm_C_mono D) (y := 67) (as := [.ref 4, .int (0 : Int32)]) (fr' := (12, [some (.ref 3), some (.int x1), some (.ref 21), none], [.ref 3], 0, 0)) rfl (T_Tape_kindOf (by omega) hc ?_)
    show sm_W sm_sh X (sm_C sm_sh X sm_P D) me_26 Q (12, [some (.ref 3), some (.int x1), some (.ref 21), none], [.int r3, .ref 3], 0, 0) (I2, J, sm_rf t d)
    refine sm_W.runL (sm_C_mono D) 1 (G := True) (e := (sd_up I2 3 2 r3)) (fr' := fun _ => (13, [some (.ref 3), some (.int x1), some (.ref 21), none], [], 0, 0)) (M' := fun I4 => (I4, J, sm_rf t d)) rfl h trivial (fun I4 h => ?_)
    refine sm_W.runL (sm_C_mono D) 3 (G := True) (e := (sd_up I4 3 4 (0 : Int32))) (fr' := fun _ => (16, [some (.ref 3), some (.int x1), some (.ref 21), none], [], 0, 0)) (M' := fun I5 => (I5, J, sm_rf t d)) rfl h trivial (fun I5 h => ?_)
    refine sm_W.runL (sm_C_mono D) 3 (G := True) (e := (sd_up I5 3 7 (0 : Int32))) (fr' := fun _ => (19, [some (.ref 3), some (.int x1), some (.ref 21), none], [], 0, 0)) (M' := fun I6 => (I6, J, sm_rf t d)) rfl h trivial (fun I6 h => ?_)
    refine sm_W.run (sm_C_mono D) 1 (G := True) (fr' := (20, [some (.ref 3), some (.int x1), some (.ref 21), none], [.ref 21], 0, 0)) (M' := (I6, J, sm_rf t d)) rfl trivial ?_
    obtain ⟨I7, hc, h⟩ := sd_q1_go h
    refine sm_W.cal (sm_C_mono D) (y := 79) (as := [.ref 21]) (fr' := (21, [some (.ref 3), some (.int x1), some (.ref 21), none], [], 0, 0)) rfl (T_Valley_clear (by omega) (by decide) hc ?_)
    show sm_W sm_sh X (sm_C sm_sh X sm_P D) me_26 Q (21, [some (.ref 3), some (.int x1), some (.ref 21), none], [], 0, 0) (I7, J, sm_rf t d)
    refine sm_W.run (sm_C_mono D) 2 (G := True) (fr' := (23, [some (.ref 3), some (.int x1), some (.ref 21), some (.int (0 : Int32))], [], 0, 0)) (M' := (I7, J, sm_rf t d)) rfl trivial ?_
    exact sm_W.forget (L' := [some (.ref 3), none, some (.ref 21), some (.int (0 : Int32))]) ⟨rfl, ⟨rfl, ⟨rfl, trivial⟩⟩⟩ (G_Reader_read_23 hD (by decide) hQ sd_fu _ _ h)
  · skip
    refine sm_W.run (sm_C_mono D) 3 (G := True) (fr' := (3, [some (.ref 3), some (.int x1), some (.ref 41), none], [.int x1, .ref 4], 0, 0)) (M' := (I, J, sm_rf t d)) rfl trivial ?_
    obtain ⟨I1, hc, h⟩ := sd_q1_go h
    refine sm_W.cal (sm_C_mono D) (y := 69) (as := [.ref 4, .int x1]) (fr' := (4, [some (.ref 3), some (.int x1), some (.ref 41), none], [], 0, 0)) rfl (T_Tape_scan (by omega) hc ?_)
    show sm_W sm_sh X (sm_C sm_sh X sm_P D) me_26 Q (4, [some (.ref 3), some (.int x1), some (.ref 41), none], [], 0, 0) (I1, J, sm_rf t d)
    refine sm_W.runL (sm_C_mono D) 3 (G := True) (e := (sd_up I1 3 1 (0 : Int32))) (fr' := fun _ => (7, [some (.ref 3), some (.int x1), some (.ref 41), none], [], 0, 0)) (M' := fun I2 => (I2, J, sm_rf t d)) rfl h trivial (fun I2 h => ?_)
    refine sm_W.run (sm_C_mono D) 4 (G := True) (fr' := (11, [some (.ref 3), some (.int x1), some (.ref 41), none], [.int (0 : Int32), .ref 4, .ref 3], 0, 0)) (M' := (I2, J, sm_rf t d)) rfl trivial ?_
    obtain ⟨r3, hc, h⟩ := sd_q1_go h
    refine sm_W.cal (sm_C_mono D) (y := 67) (as := [.ref 4, .int (0 : Int32)]) (fr' := (12, [some (.ref 3), some (.int x1), some (.ref 41), none], [.ref 3], 0, 0)) rfl (T_Tape_kindOf (by omega) hc ?_)
    show sm_W sm_sh X (sm_C sm_sh X sm_P D) me_26 Q (12, [some (.ref 3), some (.int x1), some (.ref 41), none], [.int r3, .ref 3], 0, 0) (I2, J, sm_rf t d)
    refine sm_W.runL (sm_C_mono D) 1 (G := True) (e := (sd_up I2 3 2 r3)) (fr' := fun _ => (13, [some (.ref 3), some (.int x1), some (.ref 41), none], [], 0, 0)) (M' := fun I4 => (I4, J, sm_rf t d)) rfl h trivial (fun I4 h => ?_)
    refine sm_W.runL (sm_C_mono D) 3 (G := True) (e := (sd_up I4 3 4 (0 : Int32))) (fr' := fun _ => (16, [some (.ref 3), some (.int x1), some (.ref 41), none], [], 0, 0)) (M' := fun I5 => (I5, J, sm_rf t d)) rfl h trivial (fun I5 h => ?_)
    refine sm_W.runL (sm_C_mono D) 3 (G := True) (e := (sd_up I5 3 7 (0 : Int32))) (fr' := fun _ => (19, [some (.ref 3), some (.int x1), some (.ref 41), none], [], 0, 0)) (M' := fun I6 => (I6, J, sm_rf t d)) rfl h trivial (fun I6 h => ?_)
    refine sm_W.run (sm_C_mono D) 1 (G := True) (fr' := (20, [some (.ref 3), some (.int x1), some (.ref 41), none], [.ref 41], 0, 0)) (M' := (I6, J, sm_rf t d)) rfl trivial ?_
    obtain ⟨I7, hc, h⟩ := sd_q1_go h
    refine sm_W.cal (sm_C_mono D) (y := 79) (as := [.ref 41]) (fr' := (21, [some (.ref 3), some (.int x1), some (.ref 41), none], [], 0, 0)) rfl (T_Valley_clear (by omega) (by decide) hc ?_)
    show sm_W sm_sh X (sm_C sm_sh X sm_P D) me_26 Q (21, [some (.ref 3), some (.int x1), some (.ref 41), none], [], 0, 0) (I7, J, sm_rf t d)
    refine sm_W.run (sm_C_mono D) 2 (G := True) (fr' := (23, [some (.ref 3), some (.int x1), some (.ref 41), some (.int (0 : Int32))], [], 0, 0)) (M' := (I7, J, sm_rf t d)) rfl trivial ?_
    exact sm_W.forget (L' := [some (.ref 3), none, some (.ref 41), some (.int (0 : Int32))]) ⟨rfl, ⟨rfl, ⟨rfl, trivial⟩⟩⟩ (G_Reader_read_23 hD (by decide) hQ sd_fu _ _ h)
theorem T_Reader_read {X : Nat × (Nat → Int32)} {t d D : Nat} {Q : sm_Q} {I : sm_MI} {J : sm_MJ} {p1 : Nat} {x1 : Int32} {rz : Int32} {Iz : sm_MI}
    (hD : 69 ≤ D) (hp : (p1 = 21) ∨ (p1 = 41)) (h : F_Reader_read p1 x1 I = some (rz, Iz)) (hQ : Q (.inl (some (.int rz))) (Iz, J, sm_rf t d)) : sm_C sm_sh X sm_P D 26 [.ref 3, .int x1, .ref p1] (I, J, sm_rf t d) Q := by
  cases D with
  | zero => omega
  | succ D => exact sm_C.of (me := me_26) (L := [some (.ref 3), some (.int x1), some (.ref p1), none]) rfl rfl rfl (sm_W.forget (L' := [some (.ref 3), some (.int x1), some (.ref p1), none]) ⟨rfl, ⟨rfl, ⟨rfl, trivial⟩⟩⟩ (G_Reader_read (by omega) hp h hQ))
-- 68 Tape_placeOf
noncomputable def F_Tape_placeOf (x1 : Int32) (I : sm_MI) : Option (Int32) :=
  if x1 < 0 then
    some ((I 4 5))
  else
    if (I 4 4) ≤ x1 then
      some ((I 4 5))
    else
      if (700 : Int32) ≤ x1 then
        some ((I 4 5))
      else
        sd_gu (sm_in x1 700 = true) <|
        some ((I 7 (Int32.toNatClampNeg x1)))
theorem G_Tape_placeOf {X : Nat × (Nat → Int32)} {t d D : Nat} {Q : sm_Q} {I : sm_MI} {J : sm_MJ} {x1 : Int32} {rz : Int32}
    (hD : 0 ≤ D) (h : F_Tape_placeOf x1 I = some (rz)) (hQ : Q (.inl (some (.int rz))) (I, J, sm_rf t d))  : sm_W sm_sh X (sm_C sm_sh X sm_P D) me_68 Q (0, [some (.ref 4), some (.int x1)], [], 0, 0) (I, J, sm_rf t d) := by
  unfold F_Tape_placeOf at h
  refine sm_W.run (sm_C_mono D) 2 (G := True) (fr' := (if decide (x1 < 0) = true then 14 else 2, [some (.ref 4), some (.int x1)], [], 0, 0)) (M' := (I, J, sm_rf t d)) rfl trivial (sm_W.iteD h (fun hc h => ?_) (fun hc h => ?_))
  · refine sm_W.run (sm_C_mono D) 2 (G := True) (fr' := (16, [some (.ref 4), some (.int x1)], [.int (I 4 5)], 0, 0)) (M' := (I, J, sm_rf t d)) rfl trivial ?_
    cases h
    exact sm_W.ret (sm_C_mono D) rfl hQ
  · refine sm_W.run (sm_C_mono D) 4 (G := True) (fr' := (if decide ((I 4 4) ≤ x1) = true then 14 else 6, [some (.ref 4), some (.int x1)], [], 0, 0)) (M' := (I, J, sm_rf t d)) rfl trivial (sm_W.iteD h (fun hc h => ?_) (fun hc h => ?_))
    · refine sm_W.run (sm_C_mono D) 2 (G := True) (fr' := (16, [some (.ref 4), some (.int x1)], [.int (I 4 5)], 0, 0)) (M' := (I, J, sm_rf t d)) rfl trivial ?_
      cases h
      exact sm_W.ret (sm_C_mono D) rfl hQ
    · refine sm_W.run (sm_C_mono D) 3 (G := True) (fr' := (if decide ((700 : Int32) ≤ x1) = true then 14 else 9, [some (.ref 4), some (.int x1)], [], 0, 0)) (M' := (I, J, sm_rf t d)) rfl trivial (sm_W.iteD h (fun hc h => ?_) (fun hc h => ?_))
      · refine sm_W.run (sm_C_mono D) 2 (G := True) (fr' := (16, [some (.ref 4), some (.int x1)], [.int (I 4 5)], 0, 0)) (M' := (I, J, sm_rf t d)) rfl trivial ?_
        cases h
        exact sm_W.ret (sm_C_mono D) rfl hQ
      · obtain ⟨g1, h⟩ := sd_gu_go h
        refine sm_W.run (sm_C_mono D) 5 (G := sm_in x1 700 = true ∧ True) (fr' := (16, [some (.ref 4), some (.int x1)], [.int (I 7 (Int32.toNatClampNeg x1))], 0, 0)) (M' := (I, J, sm_rf t d)) rfl ⟨g1, trivial⟩ ?_
        cases h
        exact sm_W.ret (sm_C_mono D) rfl hQ
theorem T_Tape_placeOf {X : Nat × (Nat → Int32)} {t d D : Nat} {Q : sm_Q} {I : sm_MI} {J : sm_MJ} {x1 : Int32} {rz : Int32}
    (hD : 1 ≤ D) (h : F_Tape_placeOf x1 I = some (rz)) (hQ : Q (.inl (some (.int rz))) (I, J, sm_rf t d)) : sm_C sm_sh X sm_P D 68 [.ref 4, .int x1] (I, J, sm_rf t d) Q := by
  cases D with
  | zero => omega
  | succ D => exact sm_C.of (me := me_68) (L := [some (.ref 4), some (.int x1)]) rfl rfl rfl (sm_W.forget (L' := [some (.ref 4), some (.int x1)]) ⟨rfl, ⟨rfl, trivial⟩⟩ (G_Tape_placeOf (by omega) h hQ))
-- 27 Reader_place
noncomputable def F_Reader_place (I : sm_MI) : Option (Int32) :=
  sd_q1 (F_Tape_placeOf (I 3 1) I) fun r1 =>
  some (r1)
theorem G_Reader_place {X : Nat × (Nat → Int32)} {t d D : Nat} {Q : sm_Q} {I : sm_MI} {J : sm_MJ} {rz : Int32}
    (hD : 1 ≤ D) (h : F_Reader_place I = some (rz)) (hQ : Q (.inl (some (.int rz))) (I, J, sm_rf t d))  : sm_W sm_sh X (sm_C sm_sh X sm_P D) me_27 Q (0, [some (.ref 3)], [], 0, 0) (I, J, sm_rf t d) := by
  unfold F_Reader_place at h
  refine sm_W.run (sm_C_mono D) 4 (G := True) (fr' := (4, [some (.ref 3)], [.int (I 3 1), .ref 4], 0, 0)) (M' := (I, J, sm_rf t d)) rfl trivial ?_
  obtain ⟨r1, hc, h⟩ := sd_q1_go h
  refine sm_W.cal (sm_C_mono D) (y := 68) (as := [.ref 4, .int (I 3 1)]) (fr' := (5, [some (.ref 3)], [], 0, 0)) rfl (T_Tape_placeOf (by omega) hc ?_)
  show sm_W sm_sh X (sm_C sm_sh X sm_P D) me_27 Q (5, [some (.ref 3)], [.int r1], 0, 0) (I, J, sm_rf t d)
  cases h
  exact sm_W.ret (sm_C_mono D) rfl hQ
theorem T_Reader_place {X : Nat × (Nat → Int32)} {t d D : Nat} {Q : sm_Q} {I : sm_MI} {J : sm_MJ} {rz : Int32}
    (hD : 2 ≤ D) (h : F_Reader_place I = some (rz)) (hQ : Q (.inl (some (.int rz))) (I, J, sm_rf t d)) : sm_C sm_sh X sm_P D 27 [.ref 3] (I, J, sm_rf t d) Q := by
  cases D with
  | zero => omega
  | succ D => exact sm_C.of (me := me_27) (L := [some (.ref 3)]) rfl rfl rfl (sm_W.forget (L' := [some (.ref 3)]) ⟨rfl, trivial⟩ (G_Reader_place (by omega) h hQ))
-- 55 Rules_operand
noncomputable def F_Rules_operand (p0 : Nat) (x1 : Int32) (I : sm_MI) : Option (Int32) :=
  sd_lt (x1 - (10000 : Int32)) fun a1 =>
  if a1 < 0 then
    some (x1)
  else
    if (6 : Int32) ≤ a1 then
      some (x1)
    else
      sd_gu (sm_in a1 6 = true) <|
      some ((I (p0 + 4) (Int32.toNatClampNeg a1)))
theorem G_Rules_operand {X : Nat × (Nat → Int32)} {t d D : Nat} {Q : sm_Q} {I : sm_MI} {J : sm_MJ} {p0 : Nat} {x1 : Int32} {rz : Int32}
    (hD : 0 ≤ D) (hp : (p0 = 35) ∨ (p0 = 55)) (h : F_Rules_operand p0 x1 I = some (rz)) (hQ : Q (.inl (some (.int rz))) (I, J, sm_rf t d))  : sm_W sm_sh X (sm_C sm_sh X sm_P D) me_55 Q (0, [some (.ref p0), some (.int x1), none], [], 0, 0) (I, J, sm_rf t d) := by
  unfold F_Rules_operand at h
  rcases hp with rfl | rfl
  · skip
    refine sm_W.runL (sm_C_mono D) 4 (G := True) (e := (x1 - (10000 : Int32))) (fr' := fun a1 => (4, [some (.ref 35), some (.int x1), some (.int a1)], [], 0, 0)) (M' := fun _ => (I, J, sm_rf t d)) rfl h trivial (fun a1 h => ?_)
    refine sm_W.run (sm_C_mono D) 2 (G := True) (fr' := (if decide (a1 < 0) = true then 14 else 6, [some (.ref 35), some (.int x1), some (.int a1)], [], 0, 0)) (M' := (I, J, sm_rf t d)) rfl trivial (sm_W.iteD h (fun hc h => ?_) (fun hc h => ?_))
    · refine sm_W.run (sm_C_mono D) 1 (G := True) (fr' := (15, [some (.ref 35), some (.int x1), some (.int a1)], [.int x1], 0, 0)) (M' := (I, J, sm_rf t d)) rfl trivial ?_
      cases h
      exact sm_W.ret (sm_C_mono D) rfl hQ
    · refine sm_W.run (sm_C_mono D) 3 (G := True) (fr' := (if decide ((6 : Int32) ≤ a1) = true then 14 else 9, [some (.ref 35), some (.int x1), some (.int a1)], [], 0, 0)) (M' := (I, J, sm_rf t d)) rfl trivial (sm_W.iteD h (fun hc h => ?_) (fun hc h => ?_))
      · refine sm_W.run (sm_C_mono D) 1 (G := True) (fr' := (15, [some (.ref 35), some (.int x1), some (.int a1)], [.int x1], 0, 0)) (M' := (I, J, sm_rf t d)) rfl trivial ?_
        cases h
        exact sm_W.ret (sm_C_mono D) rfl hQ
      · obtain ⟨g2, h⟩ := sd_gu_go h
        refine sm_W.run (sm_C_mono D) 5 (G := sm_in a1 6 = true ∧ True) (fr' := (15, [some (.ref 35), some (.int x1), some (.int a1)], [.int (I (35 + 4) (Int32.toNatClampNeg a1))], 0, 0)) (M' := (I, J, sm_rf t d)) rfl ⟨g2, trivial⟩ ?_
        cases h
        exact sm_W.ret (sm_C_mono D) rfl hQ
  · skip
    refine sm_W.runL (sm_C_mono D) 4 (G := True) (e := (x1 - (10000 : Int32))) (fr' := fun a1 => (4, [some (.ref 55), some (.int x1), some (.int a1)], [], 0, 0)) (M' := fun _ => (I, J, sm_rf t d)) rfl h trivial (fun a1 h => ?_)
    refine sm_W.run (sm_C_mono D) 2 (G := True) (fr' := (if decide (a1 < 0) = true then 14 else 6, [some (.ref 55), some (.int x1), some (.int a1)], [], 0, 0)) (M' := (I, J, sm_rf t d)) rfl trivial (sm_W.iteD h (fun hc h => ?_) (fun hc h => ?_))
    · refine sm_W.run (sm_C_mono D) 1 (G := True) (fr' := (15, [some (.ref 55), some (.int x1), some (.int a1)], [.int x1], 0, 0)) (M' := (I, J, sm_rf t d)) rfl trivial ?_
      cases h
      exact sm_W.ret (sm_C_mono D) rfl hQ
    · refine sm_W.run (sm_C_mono D) 3 (G := True) (fr' := (if decide ((6 : Int32) ≤ a1) = true then 14 else 9, [some (.ref 55), some (.int x1), some (.int a1)], [], 0, 0)) (M' := (I, J, sm_rf t d)) rfl trivial (sm_W.iteD h (fun hc h => ?_) (fun hc h => ?_))
      · refine sm_W.run (sm_C_mono D) 1 (G := True) (fr' := (15, [some (.ref 55), some (.int x1), some (.int a1)], [.int x1], 0, 0)) (M' := (I, J, sm_rf t d)) rfl trivial ?_
        cases h
        exact sm_W.ret (sm_C_mono D) rfl hQ
      · obtain ⟨g2, h⟩ := sd_gu_go h
        refine sm_W.run (sm_C_mono D) 5 (G := sm_in a1 6 = true ∧ True) (fr' := (15, [some (.ref 55), some (.int x1), some (.int a1)], [.int (I (55 + 4) (Int32.toNatClampNeg a1))], 0, 0)) (M' := (I, J, sm_rf t d)) rfl ⟨g2, trivial⟩ ?_
        cases h
        exact sm_W.ret (sm_C_mono D) rfl hQ
theorem T_Rules_operand {X : Nat × (Nat → Int32)} {t d D : Nat} {Q : sm_Q} {I : sm_MI} {J : sm_MJ} {p0 : Nat} {x1 : Int32} {rz : Int32}
    (hD : 1 ≤ D) (hp : (p0 = 35) ∨ (p0 = 55)) (h : F_Rules_operand p0 x1 I = some (rz)) (hQ : Q (.inl (some (.int rz))) (I, J, sm_rf t d)) : sm_C sm_sh X sm_P D 55 [.ref p0, .int x1] (I, J, sm_rf t d) Q := by
  cases D with
  | zero => omega
  | succ D => exact sm_C.of (me := me_55) (L := [some (.ref p0), some (.int x1), none]) rfl rfl rfl (sm_W.forget (L' := [some (.ref p0), some (.int x1), none]) ⟨rfl, ⟨rfl, trivial⟩⟩ (G_Rules_operand (by omega) hp h hQ))
-- 56 Rules_apply
noncomputable def F_Rules_apply (x0 : Int32) (x1 : Int32) (x2 : Int32) : Option (Int32) :=
  if x0 = (20000 : Int32) then
    if ¬ x1 = 0 then
      some ((1 : Int32))
    else
      if x2 = 0 then
        some ((0 : Int32))
      else
        some ((1 : Int32))
  else if x0 = (20001 : Int32) then
    if x1 = 0 then
      some ((0 : Int32))
    else
      if x2 = 0 then
        some ((0 : Int32))
      else
        some ((1 : Int32))
  else if x0 = (20002 : Int32) then
    some ((0 : Int32))
  else if x0 = (20003 : Int32) then
    if x2 ≤ x1 then
      some ((0 : Int32))
    else
      some ((1 : Int32))
  else if x0 = (20004 : Int32) then
    if ¬ x1 = x2 then
      some ((0 : Int32))
    else
      some ((1 : Int32))
  else if x0 = (20005 : Int32) then
    some ((x1 + x2))
  else if x0 = (20006 : Int32) then
    some ((x1 - x2))
  else if x0 = (20007 : Int32) then
    some ((x1 * x2))
  else if x0 = (20008 : Int32) then
    if ¬ x2 = 0 then
      sd_gu (¬ x2 = 0) <|
      some ((x1 / x2))
    else
      some ((0 : Int32))
  else 
    some ((0 : Int32))
theorem G_Rules_apply {X : Nat × (Nat → Int32)} {t d D : Nat} {Q : sm_Q} {I : sm_MI} {J : sm_MJ} {x0 : Int32} {x1 : Int32} {x2 : Int32} {rz : Int32}
    (hD : 0 ≤ D) (h : F_Rules_apply x0 x1 x2 = some (rz)) (hQ : Q (.inl (some (.int rz))) (I, J, sm_rf t d))  : sm_W sm_sh X (sm_C sm_sh X sm_P D) me_56 Q (0, [some (.int x0), some (.int x1), some (.int x2)], [], 0, 0) (I, J, sm_rf t d) := by
  unfold F_Rules_apply at h
  refine sm_W.run (sm_C_mono D) 2 (G := True) (fr' := (sm_sw (Int32.toInt x0) (20000) [2, 10, 52, 18, 25, 32, 36, 40, 44] 52, [some (.int x0), some (.int x1), some (.int x2)], [], 0, 0)) (M' := (I, J, sm_rf t d)) rfl trivial ?_
  rw [sd_sw_eq]
  refine sm_W.swS (c := (20000 : Int32)) (by decide) h (fun h => ?_) (fun h => ?_)
  · refine sm_W.run (sm_C_mono D) 2 (G := True) (fr' := (if decide (¬ x1 = 0) = true then 6 else 4, [some (.int x0), some (.int x1), some (.int x2)], [], 0, 0)) (M' := (I, J, sm_rf t d)) rfl trivial (sm_W.iteD h (fun hc h => ?_) (fun hc h => ?_))
    · refine sm_W.run (sm_C_mono D) 2 (G := True) (fr' := (9, [some (.int x0), some (.int x1), some (.int x2)], [.int (1 : Int32)], 0, 0)) (M' := (I, J, sm_rf t d)) rfl trivial ?_
      cases h
      exact sm_W.ret (sm_C_mono D) rfl hQ
    · refine sm_W.run (sm_C_mono D) 2 (G := True) (fr' := (if decide (x2 = 0) = true then 8 else 6, [some (.int x0), some (.int x1), some (.int x2)], [], 0, 0)) (M' := (I, J, sm_rf t d)) rfl trivial (sm_W.iteD h (fun hc h => ?_) (fun hc h => ?_))
      · refine sm_W.run (sm_C_mono D) 1 (G := True) (fr' := (9, [some (.int x0), some (.int x1), some (.int x2)], [.int (0 : Int32)], 0, 0)) (M' := (I, J, sm_rf t d)) rfl trivial ?_
        cases h
        exact sm_W.ret (sm_C_mono D) rfl hQ
      · refine sm_W.run (sm_C_mono D) 2 (G := True) (fr' := (9, [some (.int x0), some (.int x1), some (.int x2)], [.int (1 : Int32)], 0, 0)) (M' := (I, J, sm_rf t d)) rfl trivial ?_
        cases h
        exact sm_W.ret (sm_C_mono D) rfl hQ
  refine sm_W.swS (c := (20001 : Int32)) (by decide) h (fun h => ?_) (fun h => ?_)
  · refine sm_W.run (sm_C_mono D) 2 (G := True) (fr' := (if decide (x1 = 0) = true then 16 else 12, [some (.int x0), some (.int x1), some (.int x2)], [], 0, 0)) (M' := (I, J, sm_rf t d)) rfl trivial (sm_W.iteD h (fun hc h => ?_) (fun hc h => ?_))
    · refine sm_W.run (sm_C_mono D) 1 (G := True) (fr' := (17, [some (.int x0), some (.int x1), some (.int x2)], [.int (0 : Int32)], 0, 0)) (M' := (I, J, sm_rf t d)) rfl trivial ?_
      cases h
      exact sm_W.ret (sm_C_mono D) rfl hQ
    · refine sm_W.run (sm_C_mono D) 2 (G := True) (fr' := (if decide (x2 = 0) = true then 16 else 14, [some (.int x0), some (.int x1), some (.int x2)], [], 0, 0)) (M' := (I, J, sm_rf t d)) rfl trivial (sm_W.iteD h (fun hc h => ?_) (fun hc h => ?_))
      · refine sm_W.run (sm_C_mono D) 1 (G := True) (fr' := (17, [some (.int x0), some (.int x1), some (.int x2)], [.int (0 : Int32)], 0, 0)) (M' := (I, J, sm_rf t d)) rfl trivial ?_
        cases h
        exact sm_W.ret (sm_C_mono D) rfl hQ
      · refine sm_W.run (sm_C_mono D) 2 (G := True) (fr' := (17, [some (.int x0), some (.int x1), some (.int x2)], [.int (1 : Int32)], 0, 0)) (M' := (I, J, sm_rf t d)) rfl trivial ?_
        cases h
        exact sm_W.ret (sm_C_mono D) rfl hQ
  refine sm_W.swS (c := (20002 : Int32)) (by decide) h (fun h => ?_) (fun h => ?_)
  · refine sm_W.run (sm_C_mono D) 1 (G := True) (fr' := (53, [some (.int x0), some (.int x1), some (.int x2)], [.int (0 : Int32)], 0, 0)) (M' := (I, J, sm_rf t d)) rfl trivial ?_
    cases h
    exact sm_W.ret (sm_C_mono D) rfl hQ
  refine sm_W.swS (c := (20003 : Int32)) (by decide) h (fun h => ?_) (fun h => ?_)
  · refine sm_W.run (sm_C_mono D) 3 (G := True) (fr' := (if decide (x2 ≤ x1) = true then 23 else 21, [some (.int x0), some (.int x1), some (.int x2)], [], 0, 0)) (M' := (I, J, sm_rf t d)) rfl trivial (sm_W.iteD h (fun hc h => ?_) (fun hc h => ?_))
    · refine sm_W.run (sm_C_mono D) 1 (G := True) (fr' := (24, [some (.int x0), some (.int x1), some (.int x2)], [.int (0 : Int32)], 0, 0)) (M' := (I, J, sm_rf t d)) rfl trivial ?_
      cases h
      exact sm_W.ret (sm_C_mono D) rfl hQ
    · refine sm_W.run (sm_C_mono D) 2 (G := True) (fr' := (24, [some (.int x0), some (.int x1), some (.int x2)], [.int (1 : Int32)], 0, 0)) (M' := (I, J, sm_rf t d)) rfl trivial ?_
      cases h
      exact sm_W.ret (sm_C_mono D) rfl hQ
  refine sm_W.swS (c := (20004 : Int32)) (by decide) h (fun h => ?_) (fun h => ?_)
  · refine sm_W.run (sm_C_mono D) 3 (G := True) (fr' := (if decide (¬ x1 = x2) = true then 30 else 28, [some (.int x0), some (.int x1), some (.int x2)], [], 0, 0)) (M' := (I, J, sm_rf t d)) rfl trivial (sm_W.iteD h (fun hc h => ?_) (fun hc h => ?_))
    · refine sm_W.run (sm_C_mono D) 1 (G := True) (fr' := (31, [some (.int x0), some (.int x1), some (.int x2)], [.int (0 : Int32)], 0, 0)) (M' := (I, J, sm_rf t d)) rfl trivial ?_
      cases h
      exact sm_W.ret (sm_C_mono D) rfl hQ
    · refine sm_W.run (sm_C_mono D) 2 (G := True) (fr' := (31, [some (.int x0), some (.int x1), some (.int x2)], [.int (1 : Int32)], 0, 0)) (M' := (I, J, sm_rf t d)) rfl trivial ?_
      cases h
      exact sm_W.ret (sm_C_mono D) rfl hQ
  refine sm_W.swS (c := (20005 : Int32)) (by decide) h (fun h => ?_) (fun h => ?_)
  · refine sm_W.run (sm_C_mono D) 3 (G := True) (fr' := (35, [some (.int x0), some (.int x1), some (.int x2)], [.int (x1 + x2)], 0, 0)) (M' := (I, J, sm_rf t d)) rfl trivial ?_
    cases h
    exact sm_W.ret (sm_C_mono D) rfl hQ
  refine sm_W.swS (c := (20006 : Int32)) (by decide) h (fun h => ?_) (fun h => ?_)
  · refine sm_W.run (sm_C_mono D) 3 (G := True) (fr' := (39, [some (.int x0), some (.int x1), some (.int x2)], [.int (x1 - x2)], 0, 0)) (M' := (I, J, sm_rf t d)) rfl trivial ?_
    cases h
    exact sm_W.ret (sm_C_mono D) rfl hQ
  refine sm_W.swS (c := (20007 : Int32)) (by decide) h (fun h => ?_) (fun h => ?_)
  · refine sm_W.run (sm_C_mono D) 3 (G := True) (fr' := (43, [some (.int x0), some (.int x1), some (.int x2)], [.int (x1 * x2)], 0, 0)) (M' := (I, J, sm_rf t d)) rfl trivial ?_
    cases h
    exact sm_W.ret (sm_C_mono D) rfl hQ
  refine sm_W.swS (c := (20008 : Int32)) (by decide) h (fun h => ?_) (fun h => ?_)
  · refine sm_W.run (sm_C_mono D) 2 (G := True) (fr' := (if decide (¬ x2 = 0) = true then 48 else 46, [some (.int x0), some (.int x1), some (.int x2)], [], 0, 0)) (M' := (I, J, sm_rf t d)) rfl trivial (sm_W.iteD h (fun hc h => ?_) (fun hc h => ?_))
    · obtain ⟨g1, h⟩ := sd_gu_go h
      refine sm_W.run (sm_C_mono D) 3 (G := ¬ x2 = 0 ∧ True) (fr' := (51, [some (.int x0), some (.int x1), some (.int x2)], [.int (x1 / x2)], 0, 0)) (M' := (I, J, sm_rf t d)) rfl ⟨g1, trivial⟩ ?_
      cases h
      exact sm_W.ret (sm_C_mono D) rfl hQ
    · refine sm_W.run (sm_C_mono D) 2 (G := True) (fr' := (51, [some (.int x0), some (.int x1), some (.int x2)], [.int (0 : Int32)], 0, 0)) (M' := (I, J, sm_rf t d)) rfl trivial ?_
      cases h
      exact sm_W.ret (sm_C_mono D) rfl hQ
  refine sm_W.run (sm_C_mono D) 1 (G := True) (fr' := (53, [some (.int x0), some (.int x1), some (.int x2)], [.int (0 : Int32)], 0, 0)) (M' := (I, J, sm_rf t d)) rfl trivial ?_
  cases h
  exact sm_W.ret (sm_C_mono D) rfl hQ
theorem T_Rules_apply {X : Nat × (Nat → Int32)} {t d D : Nat} {Q : sm_Q} {I : sm_MI} {J : sm_MJ} {x0 : Int32} {x1 : Int32} {x2 : Int32} {rz : Int32}
    (hD : 1 ≤ D) (h : F_Rules_apply x0 x1 x2 = some (rz)) (hQ : Q (.inl (some (.int rz))) (I, J, sm_rf t d)) : sm_C sm_sh X sm_P D 56 [.int x0, .int x1, .int x2] (I, J, sm_rf t d) Q := by
  cases D with
  | zero => omega
  | succ D => exact sm_C.of (me := me_56) (L := [some (.int x0), some (.int x1), some (.int x2)]) rfl rfl rfl (sm_W.forget (L' := [some (.int x0), some (.int x1), some (.int x2)]) ⟨rfl, ⟨rfl, ⟨rfl, trivial⟩⟩⟩ (G_Rules_apply (by omega) h hQ))
