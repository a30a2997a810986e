/-! ===== printed by wip/gen/emit_parts.py: what the methods compute ===== -/
-- 164 Mo_byteAt
noncomputable def F_Mo_byteAt (x1 : Int32) (I : sm_MI) : Option (Int32) :=
  if (I 61 19) ≤ x1 then
    some ((0 : Int32))
  else
    sd_gu (sm_in x1 700 = true) <|
    some ((I 72 (Int32.toNatClampNeg x1)))
theorem G_Mo_byteAt {X : Nat × (Nat → Int32)} {t d D : Nat} {Q : sm_Q} {I : sm_MI} {J : sm_MJ} {x1 : Int32} {rz : Int32}
    (hD : 0 ≤ D) (h : F_Mo_byteAt x1 I = some (rz)) (hQ : Q (.inl (some (.int rz))) (I, J, sm_rf t d))  : sm_W sm_sh X (sm_C sm_sh X sm_P D) me_164 Q (0, [some (.ref 61), some (.int x1)], [], 0, 0) (I, J, sm_rf t d) := by
  unfold F_Mo_byteAt at h
  refine sm_W.run (sm_C_mono D) 4 (G := True) (fr' := (if decide ((I 61 19) ≤ x1) = true then 9 else 4, [some (.ref 61), some (.int x1)], [], 0, 0)) (M' := (I, J, sm_rf t d)) rfl trivial (sm_W.iteD h (fun hc h => ?_) (fun hc h => ?_))
  · refine sm_W.run (sm_C_mono D) 1 (G := True) (fr' := (10, [some (.ref 61), some (.int x1)], [.int (0 : Int32)], 0, 0)) (M' := (I, J, sm_rf t d)) rfl trivial ?_
    cases h
    exact sm_W.ret (sm_C_mono D) rfl hQ
  · obtain ⟨g1, h⟩ := sd_gu_go h
    refine sm_W.run (sm_C_mono D) 5 (G := sm_in x1 700 = true ∧ True) (fr' := (10, [some (.ref 61), some (.int x1)], [.int (I 72 (Int32.toNatClampNeg x1))], 0, 0)) (M' := (I, J, sm_rf t d)) rfl ⟨g1, trivial⟩ ?_
    cases h
    exact sm_W.ret (sm_C_mono D) rfl hQ
theorem T_Mo_byteAt {X : Nat × (Nat → Int32)} {t d D : Nat} {Q : sm_Q} {I : sm_MI} {J : sm_MJ} {x1 : Int32} {rz : Int32}
    (hD : 1 ≤ D) (h : F_Mo_byteAt x1 I = some (rz)) (hQ : Q (.inl (some (.int rz))) (I, J, sm_rf t d)) : sm_C sm_sh X sm_P D 164 [.ref 61, .int x1] (I, J, sm_rf t d) Q := by
  cases D with
  | zero => omega
  | succ D => exact sm_C.of (me := me_164) (L := [some (.ref 61), some (.int x1)]) rfl rfl rfl (sm_W.forget (L' := [some (.ref 61), some (.int x1)]) ⟨rfl, ⟨rfl, trivial⟩⟩ (G_Mo_byteAt (by omega) h hQ))
-- 165 Mo_isLetter
noncomputable def F_Mo_isLetter (x0 : Int32) : Option (Int32) :=
  if x0 < (97 : Int32) then
    some ((0 : Int32))
  else
    if (122 : Int32) < x0 then
      some ((0 : Int32))
    else
      some ((1 : Int32))
theorem G_Mo_isLetter {X : Nat × (Nat → Int32)} {t d D : Nat} {Q : sm_Q} {I : sm_MI} {J : sm_MJ} {x0 : Int32} {rz : Int32}
    (hD : 0 ≤ D) (h : F_Mo_isLetter x0 = some (rz)) (hQ : Q (.inl (some (.int rz))) (I, J, sm_rf t d))  : sm_W sm_sh X (sm_C sm_sh X sm_P D) me_165 Q (0, [some (.int x0)], [], 0, 0) (I, J, sm_rf t d) := by
  unfold F_Mo_isLetter at h
  refine sm_W.run (sm_C_mono D) 3 (G := True) (fr' := (if decide (x0 < (97 : Int32)) = true then 8 else 3, [some (.int x0)], [], 0, 0)) (M' := (I, J, sm_rf t d)) rfl trivial (sm_W.iteD h (fun hc h => ?_) (fun hc h => ?_))
  · refine sm_W.run (sm_C_mono D) 1 (G := True) (fr' := (9, [some (.int x0)], [.int (0 : Int32)], 0, 0)) (M' := (I, J, sm_rf t d)) rfl trivial ?_
    cases h
    exact sm_W.ret (sm_C_mono D) rfl hQ
  · refine sm_W.run (sm_C_mono D) 3 (G := True) (fr' := (if decide ((122 : Int32) < x0) = true then 8 else 6, [some (.int x0)], [], 0, 0)) (M' := (I, J, sm_rf t d)) rfl trivial (sm_W.iteD h (fun hc h => ?_) (fun hc h => ?_))
    · refine sm_W.run (sm_C_mono D) 1 (G := True) (fr' := (9, [some (.int x0)], [.int (0 : Int32)], 0, 0)) (M' := (I, J, sm_rf t d)) rfl trivial ?_
      cases h
      exact sm_W.ret (sm_C_mono D) rfl hQ
    · refine sm_W.run (sm_C_mono D) 2 (G := True) (fr' := (9, [some (.int x0)], [.int (1 : Int32)], 0, 0)) (M' := (I, J, sm_rf t d)) rfl trivial ?_
      cases h
      exact sm_W.ret (sm_C_mono D) rfl hQ
theorem T_Mo_isLetter {X : Nat × (Nat → Int32)} {t d D : Nat} {Q : sm_Q} {I : sm_MI} {J : sm_MJ} {x0 : Int32} {rz : Int32}
    (hD : 1 ≤ D) (h : F_Mo_isLetter x0 = some (rz)) (hQ : Q (.inl (some (.int rz))) (I, J, sm_rf t d)) : sm_C sm_sh X sm_P D 165 [.int x0] (I, J, sm_rf t d) Q := by
  cases D with
  | zero => omega
  | succ D => exact sm_C.of (me := me_165) (L := [some (.int x0)]) rfl rfl rfl (sm_W.forget (L' := [some (.int x0)]) ⟨rfl, trivial⟩ (G_Mo_isLetter (by omega) h hQ))
-- 166 Mo_isDigit
noncomputable def F_Mo_isDigit (x0 : Int32) : Option (Int32) :=
  if x0 < (48 : Int32) then
    some ((0 : Int32))
  else
    if (57 : Int32) < x0 then
      some ((0 : Int32))
    else
      some ((1 : Int32))
theorem G_Mo_isDigit {X : Nat × (Nat → Int32)} {t d D : Nat} {Q : sm_Q} {I : sm_MI} {J : sm_MJ} {x0 : Int32} {rz : Int32}
    (hD : 0 ≤ D) (h : F_Mo_isDigit x0 = some (rz)) (hQ : Q (.inl (some (.int rz))) (I, J, sm_rf t d))  : sm_W sm_sh X (sm_C sm_sh X sm_P D) me_166 Q (0, [some (.int x0)], [], 0, 0) (I, J, sm_rf t d) := by
  unfold F_Mo_isDigit at h
  refine sm_W.run (sm_C_mono D) 3 (G := True) (fr' := (if decide (x0 < (48 : Int32)) = true then 8 else 3, [some (.int x0)], [], 0, 0)) (M' := (I, J, sm_rf t d)) rfl trivial (sm_W.iteD h (fun hc h => ?_) (fun hc h => ?_))
  · refine sm_W.run (sm_C_mono D) 1 (G := True) (fr' := (9, [some (.int x0)], [.int (0 : Int32)], 0, 0)) (M' := (I, J, sm_rf t d)) rfl trivial ?_
    cases h
    exact sm_W.ret (sm_C_mono D) rfl hQ
  · refine sm_W.run (sm_C_mono D) 3 (G := True) (fr' := (if decide ((57 : Int32) < x0) = true then 8 else 6, [some (.int x0)], [], 0, 0)) (M' := (I, J, sm_rf t d)) rfl trivial (sm_W.iteD h (fun hc h => ?_) (fun hc h => ?_))
    · refine sm_W.run (sm_C_mono D) 1 (G := True) (fr' := (9, [some (.int x0)], [.int (0 : Int32)], 0, 0)) (M' := (I, J, sm_rf t d)) rfl trivial ?_
      cases h
      exact sm_W.ret (sm_C_mono D) rfl hQ
    · refine sm_W.run (sm_C_mono D) 2 (G := True) (fr' := (9, [some (.int x0)], [.int (1 : Int32)], 0, 0)) (M' := (I, J, sm_rf t d)) rfl trivial ?_
      cases h
      exact sm_W.ret (sm_C_mono D) rfl hQ
theorem T_Mo_isDigit {X : Nat × (Nat → Int32)} {t d D : Nat} {Q : sm_Q} {I : sm_MI} {J : sm_MJ} {x0 : Int32} {rz : Int32}
    (hD : 1 ≤ D) (h : F_Mo_isDigit x0 = some (rz)) (hQ : Q (.inl (some (.int rz))) (I, J, sm_rf t d)) : sm_C sm_sh X sm_P D 166 [.int x0] (I, J, sm_rf t d) Q := by
  cases D with
  | zero => omega
  | succ D => exact sm_C.of (me := me_166) (L := [some (.int x0)]) rfl rfl rfl (sm_W.forget (L' := [some (.int x0)]) ⟨rfl, trivial⟩ (G_Mo_isDigit (by omega) h hQ))
-- 167 Mo_goes
noncomputable def F_Mo_goes_170 (I : sm_MI) (J : sm_MJ) : Option (sm_MI × sm_MJ) :=
  sd_lt (sd_up I 61 23 ((I 61 20) - (I 61 22))) fun I1 =>
  some (I1, J)
noncomputable def F_Mo_goes_121 (k95 : sm_MI → sm_MJ → Option (sm_MI × sm_MJ)) (I : sm_MI) (J : sm_MJ) : Option (sm_MI × sm_MJ) :=
  sd_lt (sd_up I 61 20 ((I 61 20) + (1 : Int32))) fun I1 =>
  k95 I1 J
noncomputable def F_Mo_goes_95B (k95 : sm_MI → sm_MJ → Option (sm_MI × sm_MJ)) (I : sm_MI) (J : sm_MJ) : Option (sm_MI × sm_MJ) :=
  sd_q1 (F_Mo_byteAt (I 61 20) I) fun r1 =>
  sd_q1 (F_Mo_isDigit r1) fun r2 =>
  if r2 = 0 then
    sd_lt (sd_up I 61 21 (2 : Int32)) fun I3 =>
    F_Mo_goes_170 I3 J
  else
    if (4 : Int32) ≤ ((I 61 20) - (I 61 22)) then
      F_Mo_goes_121 k95 I J
    else
      sd_q1 (F_Mo_byteAt (I 61 20) I) fun r4 =>
      sd_lt (sd_up I 61 24 ((((10 : Int32) * (I 61 24)) + r4) - (48 : Int32))) fun I5 =>
      F_Mo_goes_121 k95 I5 J
noncomputable def F_Mo_goes_95  (n : Nat) : sm_MI → sm_MJ → Option (sm_MI × sm_MJ) :=
  sd_fix (fun k I J => F_Mo_goes_95B k I J) (fun _ _ => none) n
noncomputable def F_Mo_goes_81 (k54 : sm_MI → sm_MJ → Option (sm_MI × sm_MJ)) (I : sm_MI) (J : sm_MJ) : Option (sm_MI × sm_MJ) :=
  sd_lt (sd_up I 61 20 ((I 61 20) + (1 : Int32))) fun I1 =>
  k54 I1 J
noncomputable def F_Mo_goes_54B (k54 : sm_MI → sm_MJ → Option (sm_MI × sm_MJ)) (I : sm_MI) (J : sm_MJ) : Option (sm_MI × sm_MJ) :=
  sd_q1 (F_Mo_byteAt (I 61 20) I) fun r1 =>
  sd_q1 (F_Mo_isLetter r1) fun r2 =>
  if r2 = 0 then
    sd_lt (sd_up I 61 21 (1 : Int32)) fun I3 =>
    F_Mo_goes_170 I3 J
  else
    if (7 : Int32) ≤ ((I 61 20) - (I 61 22)) then
      F_Mo_goes_81 k54 I J
    else
      sd_q1 (F_Mo_byteAt (I 61 20) I) fun r4 =>
      sd_lt (sd_upJ J 61 26 (((J 61 26) <<< (Int32.toInt64 (5 : Int32) &&& 63)) ||| (Int32.toInt64 (r4 - (96 : Int32))))) fun J5 =>
      F_Mo_goes_81 k54 I J5
noncomputable def F_Mo_goes_54  (n : Nat) : sm_MI → sm_MJ → Option (sm_MI × sm_MJ) :=
  sd_fix (fun k I J => F_Mo_goes_54B k I J) (fun _ _ => none) n
noncomputable def F_Mo_goes_24 (I : sm_MI) (J : sm_MJ) : Option (sm_MI × sm_MJ) :=
  sd_lt (sd_up I 61 22 (I 61 20)) fun I1 =>
  sd_lt (sd_upJ J 61 26 (0 : Int64)) fun J2 =>
  sd_lt (sd_up I1 61 24 (0 : Int32)) fun I3 =>
  sd_q1 (F_Mo_byteAt (I3 61 20) I3) fun r4 =>
  sd_lt (sd_up I3 61 25 r4) fun I5 =>
  if (I5 61 20) < (I5 61 19) then
    sd_q1 (F_Mo_isLetter r4) fun r6 =>
    if r6 = 0 then
      sd_q1 (F_Mo_isDigit r4) fun r7 =>
      if r7 = 0 then
        sd_lt (sd_up I5 61 20 ((I5 61 20) + (1 : Int32))) fun I8 =>
        if r4 = (59 : Int32) then
          sd_lt (sd_up I8 61 21 (3 : Int32)) fun I9 =>
          F_Mo_goes_170 I9 J2
        else
          if r4 = (40 : Int32) then
            sd_lt (sd_up I8 61 21 (3 : Int32)) fun I10 =>
            F_Mo_goes_170 I10 J2
          else
            if r4 = (41 : Int32) then
              sd_lt (sd_up I8 61 21 (3 : Int32)) fun I11 =>
              F_Mo_goes_170 I11 J2
            else
              if r4 = (43 : Int32) then
                sd_lt (sd_up I8 61 21 (3 : Int32)) fun I12 =>
                F_Mo_goes_170 I12 J2
              else
                if r4 = (45 : Int32) then
                  sd_lt (sd_up I8 61 21 (3 : Int32)) fun I13 =>
                  F_Mo_goes_170 I13 J2
                else
                  if r4 = (42 : Int32) then
                    sd_lt (sd_up I8 61 21 (3 : Int32)) fun I14 =>
                    F_Mo_goes_170 I14 J2
                  else
                    if r4 = (47 : Int32) then
                      sd_lt (sd_up I8 61 21 (3 : Int32)) fun I15 =>
                      F_Mo_goes_170 I15 J2
                    else
                      if r4 = (60 : Int32) then
                        sd_lt (sd_up I8 61 21 (3 : Int32)) fun I16 =>
                        F_Mo_goes_170 I16 J2
                      else
                        if ¬ r4 = (61 : Int32) then
                          sd_lt (sd_up I8 61 21 (4 : Int32)) fun I17 =>
                          F_Mo_goes_170 I17 J2
                        else
                          sd_lt (sd_up I8 61 21 (3 : Int32)) fun I18 =>
                          F_Mo_goes_170 I18 J2
      else
        F_Mo_goes_95 sd_fu I5 J2
    else
      F_Mo_goes_54 sd_fu I5 J2
  else
    sd_lt (sd_up I5 61 21 (0 : Int32)) fun I19 =>
    F_Mo_goes_170 I19 J2
noncomputable def F_Mo_goes_17 (k0 : sm_MI → sm_MJ → Option (sm_MI × sm_MJ)) (I : sm_MI) (J : sm_MJ) : Option (sm_MI × sm_MJ) :=
  sd_lt (sd_up I 61 20 ((I 61 20) + (1 : Int32))) fun I1 =>
  k0 I1 J
noncomputable def F_Mo_goes_0B (k0 : sm_MI → sm_MJ → Option (sm_MI × sm_MJ)) (I : sm_MI) (J : sm_MJ) : Option (sm_MI × sm_MJ) :=
  if (I 61 19) ≤ (I 61 20) then
    F_Mo_goes_24 I J
  else
    sd_q1 (F_Mo_byteAt (I 61 20) I) fun r1 =>
    if r1 = (32 : Int32) then
      F_Mo_goes_17 k0 I J
    else
      sd_q1 (F_Mo_byteAt (I 61 20) I) fun r2 =>
      if ¬ r2 = (10 : Int32) then
        F_Mo_goes_24 I J
      else
        F_Mo_goes_17 k0 I J
noncomputable def F_Mo_goes_0  (n : Nat) : sm_MI → sm_MJ → Option (sm_MI × sm_MJ) :=
  sd_fix (fun k I J => F_Mo_goes_0B k I J) (fun _ _ => none) n
noncomputable def F_Mo_goes (I : sm_MI) (J : sm_MJ) : Option (sm_MI × sm_MJ) :=
  F_Mo_goes_0 sd_fu I J
theorem G_Mo_goes_170 {X : Nat × (Nat → Int32)} {t d D : Nat} {Q : sm_Q} {I : sm_MI} {J : sm_MJ} {Iz : sm_MI} {Jz : sm_MJ}
    (hD : 1 ≤ D) (h : F_Mo_goes_170 I J = some (Iz, Jz)) (hQ : Q (.inl none) (Iz, Jz, sm_rf t d))  : sm_W sm_sh X (sm_C sm_sh X sm_P D) me_167 Q (170, [some (.ref 61), none], [], 0, 0) (I, J, sm_rf t d) := by
  unfold F_Mo_goes_170 at h
  refine sm_W.runL (sm_C_mono D) 7 (G := True) (e := (sd_up I 61 23 ((I 61 20) - (I 61 22)))) (fr' := fun _ => (177, [some (.ref 61), none], [], 0, 0)) (M' := fun I1 => (I1, J, sm_rf t d)) rfl h trivial (fun I1 h => ?_)
  cases h
  exact sm_W.ret (sm_C_mono D) rfl hQ
theorem G_Mo_goes_121 {X : Nat × (Nat → Int32)} {t d D : Nat} {Q : sm_Q} {I : sm_MI} {J : sm_MJ} {k95 : sm_MI → sm_MJ → Option (sm_MI × sm_MJ)} {Iz : sm_MI} {Jz : sm_MJ}
    (hD : 1 ≤ D) (h : F_Mo_goes_121 k95 I J = some (Iz, Jz)) (hQ : Q (.inl none) (Iz, Jz, sm_rf t d)) (hk95 : ∀ (I : sm_MI) (J : sm_MJ), k95 I J = some (Iz, Jz) → sm_W sm_sh X (sm_C sm_sh X sm_P D) me_167 Q (95, [some (.ref 61), none], [], 0, 0) (I, J, sm_rf t d)) : sm_W sm_sh X (sm_C sm_sh X sm_P D) me_167 Q (121, [some (.ref 61), none], [], 0, 0) (I, J, sm_rf t d) := by
  unfold F_Mo_goes_121 at h
  refine sm_W.runL (sm_C_mono D) 6 (G := True) (e := (sd_up I 61 20 ((I 61 20) + (1 : Int32)))) (fr' := fun _ => (127, [some (.ref 61), none], [], 0, 0)) (M' := fun I1 => (I1, J, sm_rf t d)) rfl h trivial (fun I1 h => ?_)
  refine sm_W.run (sm_C_mono D) 1 (G := True) (fr' := (95, [some (.ref 61), none], [], 0, 0)) (M' := (I1, J, sm_rf t d)) rfl trivial ?_
  exact (hk95 _ _ h)
theorem G_Mo_goes_95B {X : Nat × (Nat → Int32)} {t d D : Nat} {Q : sm_Q} {I : sm_MI} {J : sm_MJ} {k95 : sm_MI → sm_MJ → Option (sm_MI × sm_MJ)} {Iz : sm_MI} {Jz : sm_MJ}
    (hD : 1 ≤ D) (h : F_Mo_goes_95B k95 I J = some (Iz, Jz)) (hQ : Q (.inl none) (Iz, Jz, sm_rf t d)) (hk95 : ∀ (I : sm_MI) (J : sm_MJ), k95 I J = some (Iz, Jz) → sm_W sm_sh X (sm_C sm_sh X sm_P D) me_167 Q (95, [some (.ref 61), none], [], 0, 0) (I, J, sm_rf t d)) : sm_W sm_sh X (sm_C sm_sh X sm_P D) me_167 Q (95, [some (.ref 61), none], [], 0, 0) (I, J, sm_rf t d) := by
  unfold F_Mo_goes_95B at h
  refine sm_W.run (sm_C_mono D) 3 (G := True) (fr' := (98, [some (.ref 61), none], [.int (I 61 20), .ref 61], 0, 0)) (M' := (I, J, sm_rf t d)) rfl trivial ?_
  obtain ⟨r1, hc, h⟩ := sd_q1_go h
  refine sm_W.cal (sm_C_mono D) (y := 164) (as := [.ref 61, .int (I 61 20)]) (fr' := (99, [some (.ref 61), none], [], 0, 0)) rfl (T_Mo_byteAt (by omega) hc ?_)
  show sm_W sm_sh X (sm_C sm_sh X sm_P D) me_167 Q (99, [some (.ref 61), none], [.int r1], 0, 0) (I, J, sm_rf t d)
  obtain ⟨r2, hc, h⟩ := sd_q1_go h
  refine sm_W.cal (sm_C_mono D) (y := 166) (as := [.int r1]) (fr' := (100, [some (.ref 61), none], [], 0, 0)) rfl (T_Mo_isDigit (by omega) hc ?_)
  show sm_W sm_sh X (sm_C sm_sh X sm_P D) me_167 Q (100, [some (.ref 61), none], [.int r2], 0, 0) (I, J, sm_rf t d)
  refine sm_W.run (sm_C_mono D) 1 (G := True) (fr' := (if decide (r2 = 0) = true then 128 else 101, [some (.ref 61), none], [], 0, 0)) (M' := (I, J, sm_rf t d)) rfl trivial (sm_W.iteD h (fun hc h => ?_) (fun hc h => ?_))
  · refine sm_W.runL (sm_C_mono D) 3 (G := True) (e := (sd_up I 61 21 (2 : Int32))) (fr' := fun _ => (131, [some (.ref 61), none], [], 0, 0)) (M' := fun I3 => (I3, J, sm_rf t d)) rfl h trivial (fun I3 h => ?_)
    refine sm_W.run (sm_C_mono D) 1 (G := True) (fr' := (170, [some (.ref 61), none], [], 0, 0)) (M' := (I3, J, sm_rf t d)) rfl trivial ?_
    exact (G_Mo_goes_170 hD h hQ)
  · refine sm_W.run (sm_C_mono D) 7 (G := True) (fr' := (if decide ((4 : Int32) ≤ ((I 61 20) - (I 61 22))) = true then 121 else 108, [some (.ref 61), none], [], 0, 0)) (M' := (I, J, sm_rf t d)) rfl trivial (sm_W.iteD h (fun hc h => ?_) (fun hc h => ?_))
    · exact (G_Mo_goes_121 hD h hQ hk95)
    · refine sm_W.run (sm_C_mono D) 8 (G := True) (fr' := (116, [some (.ref 61), none], [.int (I 61 20), .ref 61, .int ((10 : Int32) * (I 61 24)), .ref 61], 0, 0)) (M' := (I, J, sm_rf t d)) rfl trivial ?_
      obtain ⟨r4, hc, h⟩ := sd_q1_go h
      refine sm_W.cal (sm_C_mono D) (y := 164) (as := [.ref 61, .int (I 61 20)]) (fr' := (117, [some (.ref 61), none], [.int ((10 : Int32) * (I 61 24)), .ref 61], 0, 0)) rfl (T_Mo_byteAt (by omega) hc ?_)
      show sm_W sm_sh X (sm_C sm_sh X sm_P D) me_167 Q (117, [some (.ref 61), none], [.int r4, .int ((10 : Int32) * (I 61 24)), .ref 61], 0, 0) (I, J, sm_rf t d)
      refine sm_W.runL (sm_C_mono D) 4 (G := True) (e := (sd_up I 61 24 ((((10 : Int32) * (I 61 24)) + r4) - (48 : Int32)))) (fr' := fun _ => (121, [some (.ref 61), none], [], 0, 0)) (M' := fun I5 => (I5, J, sm_rf t d)) rfl h trivial (fun I5 h => ?_)
      exact (G_Mo_goes_121 hD h hQ hk95)
theorem G_Mo_goes_95 {X : Nat × (Nat → Int32)} {t d D : Nat} {Q : sm_Q} {Iz : sm_MI} {Jz : sm_MJ}
    (hD : 1 ≤ D) (hQ : Q (.inl none) (Iz, Jz, sm_rf t d))  : ∀ (n : Nat) (I : sm_MI) (J : sm_MJ), F_Mo_goes_95 n I J = some (Iz, Jz) → sm_W sm_sh X (sm_C sm_sh X sm_P D) me_167 Q (95, [some (.ref 61), none], [], 0, 0) (I, J, sm_rf t d) := by
  intro n
  induction n with
  | zero => intro I J h; cases (show (none : Option (sm_MI × sm_MJ)) = some (Iz, Jz) from h)
  | succ n ih => intro I J h; exact G_Mo_goes_95B hD (show F_Mo_goes_95B (F_Mo_goes_95 n) I J = some (Iz, Jz) from h) hQ  ih
theorem G_Mo_goes_81 {X : Nat × (Nat → Int32)} {t d D : Nat} {Q : sm_Q} {I : sm_MI} {J : sm_MJ} {k54 : sm_MI → sm_MJ → Option (sm_MI × sm_MJ)} {Iz : sm_MI} {Jz : sm_MJ}
    (hD : 1 ≤ D) (h : F_Mo_goes_81 k54 I J = some (Iz, Jz)) (hQ : Q (.inl none) (Iz, Jz, sm_rf t d)) (hk54 : ∀ (I : sm_MI) (J : sm_MJ), k54 I J = some (Iz, Jz) → sm_W sm_sh X (sm_C sm_sh X sm_P D) me_167 Q (54, [some (.ref 61), none], [], 0, 0) (I, J, sm_rf t d)) : sm_W sm_sh X (sm_C sm_sh X sm_P D) me_167 Q (81, [some (.ref 61), none], [], 0, 0) (I, J, sm_rf t d) := by
  unfold F_Mo_goes_81 at h
  refine sm_W.runL (sm_C_mono D) 6 (G := True) (e := (sd_up I 61 20 ((I 61 20) + (1 : Int32)))) (fr' := fun _ => (87, [some (.ref 61), none], [], 0, 0)) (M' := fun I1 => (I1, J, sm_rf t d)) rfl h trivial (fun I1 h => ?_)
  refine sm_W.run (sm_C_mono D) 1 (G := True) (fr' := (54, [some (.ref 61), none], [], 0, 0)) (M' := (I1, J, sm_rf t d)) rfl trivial ?_
  exact (hk54 _ _ h)
theorem G_Mo_goes_54B {X : Nat × (Nat → Int32)} {t d D : Nat} {Q : sm_Q} {I : sm_MI} {J : sm_MJ} {k54 : sm_MI → sm_MJ → Option (sm_MI × sm_MJ)} {Iz : sm_MI} {Jz : sm_MJ}
    (hD : 1 ≤ D) (h : F_Mo_goes_54B k54 I J = some (Iz, Jz)) (hQ : Q (.inl none) (Iz, Jz, sm_rf t d)) (hk54 : ∀ (I : sm_MI) (J : sm_MJ), k54 I J = some (Iz, Jz) → sm_W sm_sh X (sm_C sm_sh X sm_P D) me_167 Q (54, [some (.ref 61), none], [], 0, 0) (I, J, sm_rf t d)) : sm_W sm_sh X (sm_C sm_sh X sm_P D) me_167 Q (54, [some (.ref 61), none], [], 0, 0) (I, J, sm_rf t d) := by
  unfold F_Mo_goes_54B at h
  refine sm_W.run (sm_C_mono D) 3 (G := True) (fr' := (57, [some (.ref 61), none], [.int (I 61 20), .ref 61], 0, 0)) (M' := (I, J, sm_rf t d)) rfl trivial ?_
  obtain ⟨r1, hc, h⟩ := sd_q1_go h
  refine sm_W.cal (sm_C_mono D) (y := 164) (as := [.ref 61, .int (I 61 20)]) (fr' := (58, [some (.ref 61), none], [], 0, 0)) rfl (T_Mo_byteAt (by omega) hc ?_)
  show sm_W sm_sh X (sm_C sm_sh X sm_P D) me_167 Q (58, [some (.ref 61), none], [.int r1], 0, 0) (I, J, sm_rf t d)
  obtain ⟨r2, hc, h⟩ := sd_q1_go h
  refine sm_W.cal (sm_C_mono D) (y := 165) (as := [.int r1]) (fr' := (59, [some (.ref 61), none], [], 0, 0)) rfl (T_Mo_isLetter (by omega) hc ?_)
  show sm_W sm_sh X (sm_C sm_sh X sm_P D) me_167 Q (59, [some (.ref 61), none], [.int r2], 0, 0) (I, J, sm_rf t d)
  refine sm_W.run (sm_C_mono D) 1 (G := True) (fr' := (if decide (r2 = 0) = true then 88 else 60, [some (.ref 61), none], [], 0, 0)) (M' := (I, J, sm_rf t d)) rfl trivial (sm_W.iteD h (fun hc h => ?_) (fun hc h => ?_))
  · refine sm_W.runL (sm_C_mono D) 3 (G := True) (e := (sd_up I 61 21 (1 : Int32))) (fr' := fun _ => (91, [some (.ref 61), none], [], 0, 0)) (M' := fun I3 => (I3, J, sm_rf t d)) rfl h trivial (fun I3 h => ?_)
    refine sm_W.run (sm_C_mono D) 1 (G := True) (fr' := (170, [some (.ref 61), none], [], 0, 0)) (M' := (I3, J, sm_rf t d)) rfl trivial ?_
    exact (G_Mo_goes_170 hD h hQ)
  · refine sm_W.run (sm_C_mono D) 7 (G := True) (fr' := (if decide ((7 : Int32) ≤ ((I 61 20) - (I 61 22))) = true then 81 else 67, [some (.ref 61), none], [], 0, 0)) (M' := (I, J, sm_rf t d)) rfl trivial (sm_W.iteD h (fun hc h => ?_) (fun hc h => ?_))
    · exact (G_Mo_goes_81 hD h hQ hk54)
    · refine sm_W.run (sm_C_mono D) 8 (G := True) (fr' := (75, [some (.ref 61), none], [.int (I 61 20), .ref 61, .long ((J 61 26) <<< (Int32.toInt64 (5 : Int32) &&& 63)), .ref 61], 0, 0)) (M' := (I, J, sm_rf t d)) rfl trivial ?_
      obtain ⟨r4, hc, h⟩ := sd_q1_go h
      refine sm_W.cal (sm_C_mono D) (y := 164) (as := [.ref 61, .int (I 61 20)]) (fr' := (76, [some (.ref 61), none], [.long ((J 61 26) <<< (Int32.toInt64 (5 : Int32) &&& 63)), .ref 61], 0, 0)) rfl (T_Mo_byteAt (by omega) hc ?_)
      show sm_W sm_sh X (sm_C sm_sh X sm_P D) me_167 Q (76, [some (.ref 61), none], [.int r4, .long ((J 61 26) <<< (Int32.toInt64 (5 : Int32) &&& 63)), .ref 61], 0, 0) (I, J, sm_rf t d)
      refine sm_W.runL (sm_C_mono D) 5 (G := True) (e := (sd_upJ J 61 26 (((J 61 26) <<< (Int32.toInt64 (5 : Int32) &&& 63)) ||| (Int32.toInt64 (r4 - (96 : Int32)))))) (fr' := fun _ => (81, [some (.ref 61), none], [], 0, 0)) (M' := fun J5 => (I, J5, sm_rf t d)) rfl h trivial (fun J5 h => ?_)
      exact (G_Mo_goes_81 hD h hQ hk54)
theorem G_Mo_goes_54 {X : Nat × (Nat → Int32)} {t d D : Nat} {Q : sm_Q} {Iz : sm_MI} {Jz : sm_MJ}
    (hD : 1 ≤ D) (hQ : Q (.inl none) (Iz, Jz, sm_rf t d))  : ∀ (n : Nat) (I : sm_MI) (J : sm_MJ), F_Mo_goes_54 n I J = some (Iz, Jz) → sm_W sm_sh X (sm_C sm_sh X sm_P D) me_167 Q (54, [some (.ref 61), none], [], 0, 0) (I, J, sm_rf t d) := by
  intro n
  induction n with
  | zero => intro I J h; cases (show (none : Option (sm_MI × sm_MJ)) = some (Iz, Jz) from h)
  | succ n ih => intro I J h; exact G_Mo_goes_54B hD (show F_Mo_goes_54B (F_Mo_goes_54 n) I J = some (Iz, Jz) from h) hQ  ih
theorem G_Mo_goes_24 {X : Nat × (Nat → Int32)} {t d D : Nat} {Q : sm_Q} {I : sm_MI} {J : sm_MJ} {Iz : sm_MI} {Jz : sm_MJ}
    (hD : 1 ≤ D) (h : F_Mo_goes_24 I J = some (Iz, Jz)) (hQ : Q (.inl none) (Iz, Jz, sm_rf t d))  : sm_W sm_sh X (sm_C sm_sh X sm_P D) me_167 Q (24, [some (.ref 61), none], [], 0, 0) (I, J, sm_rf t d) := by
  unfold F_Mo_goes_24 at h
  refine sm_W.runL (sm_C_mono D) 4 (G := True) (e := (sd_up I 61 22 (I 61 20))) (fr' := fun _ => (28, [some (.ref 61), none], [], 0, 0)) (M' := fun I1 => (I1, J, sm_rf t d)) rfl h trivial (fun I1 h => ?_)
  refine sm_W.runL (sm_C_mono D) 3 (G := True) (e := (sd_upJ J 61 26 (0 : Int64))) (fr' := fun _ => (31, [some (.ref 61), none], [], 0, 0)) (M' := fun J2 => (I1, J2, sm_rf t d)) rfl h trivial (fun J2 h => ?_)
  refine sm_W.runL (sm_C_mono D) 3 (G := True) (e := (sd_up I1 61 24 (0 : Int32))) (fr' := fun _ => (34, [some (.ref 61), none], [], 0, 0)) (M' := fun I3 => (I3, J2, sm_rf t d)) rfl h trivial (fun I3 h => ?_)
  refine sm_W.run (sm_C_mono D) 3 (G := True) (fr' := (37, [some (.ref 61), none], [.int (I3 61 20), .ref 61], 0, 0)) (M' := (I3, J2, sm_rf t d)) rfl trivial ?_
  obtain ⟨r4, hc, h⟩ := sd_q1_go h
  refine sm_W.cal (sm_C_mono D) (y := 164) (as := [.ref 61, .int (I3 61 20)]) (fr' := (38, [some (.ref 61), none], [], 0, 0)) rfl (T_Mo_byteAt (by omega) hc ?_)
  show sm_W sm_sh X (sm_C sm_sh X sm_P D) me_167 Q (38, [some (.ref 61), none], [.int r4], 0, 0) (I3, J2, sm_rf t d)
  refine sm_W.runL (sm_C_mono D) 4 (G := True) (e := (sd_up I3 61 25 r4)) (fr' := fun _ => (42, [some (.ref 61), some (.int r4)], [], 0, 0)) (M' := fun I5 => (I5, J2, sm_rf t d)) rfl h trivial (fun I5 h => ?_)
  refine sm_W.run (sm_C_mono D) 5 (G := True) (fr' := (if decide ((I5 61 20) < (I5 61 19)) = true then 51 else 47, [some (.ref 61), some (.int r4)], [], 0, 0)) (M' := (I5, J2, sm_rf t d)) rfl trivial (sm_W.iteD h (fun hc h => ?_) (fun hc h => ?_))
  · refine sm_W.run (sm_C_mono D) 1 (G := True) (fr' := (52, [some (.ref 61), some (.int r4)], [.int r4], 0, 0)) (M' := (I5, J2, sm_rf t d)) rfl trivial ?_
    obtain ⟨r6, hc, h⟩ := sd_q1_go h
    refine sm_W.cal (sm_C_mono D) (y := 165) (as := [.int r4]) (fr' := (53, [some (.ref 61), some (.int r4)], [], 0, 0)) rfl (T_Mo_isLetter (by omega) hc ?_)
    show sm_W sm_sh X (sm_C sm_sh X sm_P D) me_167 Q (53, [some (.ref 61), some (.int r4)], [.int r6], 0, 0) (I5, J2, sm_rf t d)
    refine sm_W.run (sm_C_mono D) 1 (G := True) (fr' := (if decide (r6 = 0) = true then 92 else 54, [some (.ref 61), some (.int r4)], [], 0, 0)) (M' := (I5, J2, sm_rf t d)) rfl trivial (sm_W.iteD h (fun hc h => ?_) (fun hc h => ?_))
    · refine sm_W.run (sm_C_mono D) 1 (G := True) (fr' := (93, [some (.ref 61), some (.int r4)], [.int r4], 0, 0)) (M' := (I5, J2, sm_rf t d)) rfl trivial ?_
      obtain ⟨r7, hc, h⟩ := sd_q1_go h
      refine sm_W.cal (sm_C_mono D) (y := 166) (as := [.int r4]) (fr' := (94, [some (.ref 61), some (.int r4)], [], 0, 0)) rfl (T_Mo_isDigit (by omega) hc ?_)
      show sm_W sm_sh X (sm_C sm_sh X sm_P D) me_167 Q (94, [some (.ref 61), some (.int r4)], [.int r7], 0, 0) (I5, J2, sm_rf t d)
      refine sm_W.run (sm_C_mono D) 1 (G := True) (fr' := (if decide (r7 = 0) = true then 132 else 95, [some (.ref 61), some (.int r4)], [], 0, 0)) (M' := (I5, J2, sm_rf t d)) rfl trivial (sm_W.iteD h (fun hc h => ?_) (fun hc h => ?_))
      · refine sm_W.runL (sm_C_mono D) 6 (G := True) (e := (sd_up I5 61 20 ((I5 61 20) + (1 : Int32)))) (fr' := fun _ => (138, [some (.ref 61), some (.int r4)], [], 0, 0)) (M' := fun I8 => (I8, J2, sm_rf t d)) rfl h trivial (fun I8 h => ?_)
        refine sm_W.run (sm_C_mono D) 4 (G := True) (fr' := (if decide (r4 = (59 : Int32)) = true then 166 else 142, [some (.ref 61), some (.int r4)], [.ref 61], 0, 0)) (M' := (I8, J2, sm_rf t d)) rfl trivial (sm_W.iteD h (fun hc h => ?_) (fun hc h => ?_))
        · refine sm_W.runL (sm_C_mono D) 3 (G := True) (e := (sd_up I8 61 21 (3 : Int32))) (fr' := fun _ => (170, [some (.ref 61), some (.int r4)], [], 0, 0)) (M' := fun I9 => (I9, J2, sm_rf t d)) rfl h trivial (fun I9 h => ?_)
          exact sm_W.forget (L' := [some (.ref 61), none]) ⟨rfl, trivial⟩ (G_Mo_goes_170 hD h hQ)
        · refine sm_W.run (sm_C_mono D) 3 (G := True) (fr' := (if decide (r4 = (40 : Int32)) = true then 166 else 145, [some (.ref 61), some (.int r4)], [.ref 61], 0, 0)) (M' := (I8, J2, sm_rf t d)) rfl trivial (sm_W.iteD h (fun hc h => ?_) (fun hc h => ?_))
          · refine sm_W.runL (sm_C_mono D) 3 (G := True) (e := (sd_up I8 61 21 (3 : Int32))) (fr' := fun _ => (170, [some (.ref 61), some (.int r4)], [], 0, 0)) (M' := fun I10 => (I10, J2, sm_rf t d)) rfl h trivial (fun I10 h => ?_)
            exact sm_W.forget (L' := [some (.ref 61), none]) ⟨rfl, trivial⟩ (G_Mo_goes_170 hD h hQ)
          · refine sm_W.run (sm_C_mono D) 3 (G := True) (fr' := (if decide (r4 = (41 : Int32)) = true then 166 else 148, [some (.ref 61), some (.int r4)], [.ref 61], 0, 0)) (M' := (I8, J2, sm_rf t d)) rfl trivial (sm_W.iteD h (fun hc h => ?_) (fun hc h => ?_))
            · refine sm_W.runL (sm_C_mono D) 3 (G := True) (e := (sd_up I8 61 21 (3 : Int32))) (fr' := fun _ => (170, [some (.ref 61), some (.int r4)], [], 0, 0)) (M' := fun I11 => (I11, J2, sm_rf t d)) rfl h trivial (fun I11 h => ?_)
              exact sm_W.forget (L' := [some (.ref 61), none]) ⟨rfl, trivial⟩ (G_Mo_goes_170 hD h hQ)
            · refine sm_W.run (sm_C_mono D) 3 (G := True) (fr' := (if decide (r4 = (43 : Int32)) = true then 166 else 151, [some (.ref 61), some (.int r4)], [.ref 61], 0, 0)) (M' := (I8, J2, sm_rf t d)) rfl trivial (sm_W.iteD h (fun hc h => ?_) (fun hc h => ?_))
              · refine sm_W.runL (sm_C_mono D) 3 (G := True) (e := (sd_up I8 61 21 (3 : Int32))) (fr' := fun _ => (170, [some (.ref 61), some (.int r4)], [], 0, 0)) (M' := fun I12 => (I12, J2, sm_rf t d)) rfl h trivial (fun I12 h => ?_)
                exact sm_W.forget (L' := [some (.ref 61), none]) ⟨rfl, trivial⟩ (G_Mo_goes_170 hD h hQ)
              · refine sm_W.run (sm_C_mono D) 3 (G := True) (fr' := (if decide (r4 = (45 : Int32)) = true then 166 else 154, [some (.ref 61), some (.int r4)], [.ref 61], 0, 0)) (M' := (I8, J2, sm_rf t d)) rfl trivial (sm_W.iteD h (fun hc h => ?_) (fun hc h => ?_))
                · refine sm_W.runL (sm_C_mono D) 3 (G := True) (e := (sd_up I8 61 21 (3 : Int32))) (fr' := fun _ => (170, [some (.ref 61), some (.int r4)], [], 0, 0)) (M' := fun I13 => (I13, J2, sm_rf t d)) rfl h trivial (fun I13 h => ?_)
                  exact sm_W.forget (L' := [some (.ref 61), none]) ⟨rfl, trivial⟩ (G_Mo_goes_170 hD h hQ)
                · refine sm_W.run (sm_C_mono D) 3 (G := True) (fr' := (if decide (r4 = (42 : Int32)) = true then 166 else 157, [some (.ref 61), some (.int r4)], [.ref 61], 0, 0)) (M' := (I8, J2, sm_rf t d)) rfl trivial (sm_W.iteD h (fun hc h => ?_) (fun hc h => ?_))
                  · refine sm_W.runL (sm_C_mono D) 3 (G := True) (e := (sd_up I8 61 21 (3 : Int32))) (fr' := fun _ => (170, [some (.ref 61), some (.int r4)], [], 0, 0)) (M' := fun I14 => (I14, J2, sm_rf t d)) rfl h trivial (fun I14 h => ?_)
                    exact sm_W.forget (L' := [some (.ref 61), none]) ⟨rfl, trivial⟩ (G_Mo_goes_170 hD h hQ)
                  · refine sm_W.run (sm_C_mono D) 3 (G := True) (fr' := (if decide (r4 = (47 : Int32)) = true then 166 else 160, [some (.ref 61), some (.int r4)], [.ref 61], 0, 0)) (M' := (I8, J2, sm_rf t d)) rfl trivial (sm_W.iteD h (fun hc h => ?_) (fun hc h => ?_))
                    · refine sm_W.runL (sm_C_mono D) 3 (G := True) (e := (sd_up I8 61 21 (3 : Int32))) (fr' := fun _ => (170, [some (.ref 61), some (.int r4)], [], 0, 0)) (M' := fun I15 => (I15, J2, sm_rf t d)) rfl h trivial (fun I15 h => ?_)
                      exact sm_W.forget (L' := [some (.ref 61), none]) ⟨rfl, trivial⟩ (G_Mo_goes_170 hD h hQ)
                    · refine sm_W.run (sm_C_mono D) 3 (G := True) (fr' := (if decide (r4 = (60 : Int32)) = true then 166 else 163, [some (.ref 61), some (.int r4)], [.ref 61], 0, 0)) (M' := (I8, J2, sm_rf t d)) rfl trivial (sm_W.iteD h (fun hc h => ?_) (fun hc h => ?_))
                      · refine sm_W.runL (sm_C_mono D) 3 (G := True) (e := (sd_up I8 61 21 (3 : Int32))) (fr' := fun _ => (170, [some (.ref 61), some (.int r4)], [], 0, 0)) (M' := fun I16 => (I16, J2, sm_rf t d)) rfl h trivial (fun I16 h => ?_)
                        exact sm_W.forget (L' := [some (.ref 61), none]) ⟨rfl, trivial⟩ (G_Mo_goes_170 hD h hQ)
                      · refine sm_W.run (sm_C_mono D) 3 (G := True) (fr' := (if decide (¬ r4 = (61 : Int32)) = true then 168 else 166, [some (.ref 61), some (.int r4)], [.ref 61], 0, 0)) (M' := (I8, J2, sm_rf t d)) rfl trivial (sm_W.iteD h (fun hc h => ?_) (fun hc h => ?_))
                        · refine sm_W.runL (sm_C_mono D) 2 (G := True) (e := (sd_up I8 61 21 (4 : Int32))) (fr' := fun _ => (170, [some (.ref 61), some (.int r4)], [], 0, 0)) (M' := fun I17 => (I17, J2, sm_rf t d)) rfl h trivial (fun I17 h => ?_)
                          exact sm_W.forget (L' := [some (.ref 61), none]) ⟨rfl, trivial⟩ (G_Mo_goes_170 hD h hQ)
                        · refine sm_W.runL (sm_C_mono D) 3 (G := True) (e := (sd_up I8 61 21 (3 : Int32))) (fr' := fun _ => (170, [some (.ref 61), some (.int r4)], [], 0, 0)) (M' := fun I18 => (I18, J2, sm_rf t d)) rfl h trivial (fun I18 h => ?_)
                          exact sm_W.forget (L' := [some (.ref 61), none]) ⟨rfl, trivial⟩ (G_Mo_goes_170 hD h hQ)
      · exact sm_W.forget (L' := [some (.ref 61), none]) ⟨rfl, trivial⟩ (G_Mo_goes_95 hD hQ sd_fu _ _ h)
    · exact sm_W.forget (L' := [some (.ref 61), none]) ⟨rfl, trivial⟩ (G_Mo_goes_54 hD hQ sd_fu _ _ h)
  · refine sm_W.runL (sm_C_mono D) 3 (G := True) (e := (sd_up I5 61 21 (0 : Int32))) (fr' := fun _ => (50, [some (.ref 61), some (.int r4)], [], 0, 0)) (M' := fun I19 => (I19, J2, sm_rf t d)) rfl h trivial (fun I19 h => ?_)
    refine sm_W.run (sm_C_mono D) 1 (G := True) (fr' := (170, [some (.ref 61), some (.int r4)], [], 0, 0)) (M' := (I19, J2, sm_rf t d)) rfl trivial ?_
    exact sm_W.forget (L' := [some (.ref 61), none]) ⟨rfl, trivial⟩ (G_Mo_goes_170 hD h hQ)
theorem G_Mo_goes_17 {X : Nat × (Nat → Int32)} {t d D : Nat} {Q : sm_Q} {I : sm_MI} {J : sm_MJ} {k0 : sm_MI → sm_MJ → Option (sm_MI × sm_MJ)} {Iz : sm_MI} {Jz : sm_MJ}
    (hD : 1 ≤ D) (h : F_Mo_goes_17 k0 I J = some (Iz, Jz)) (hQ : Q (.inl none) (Iz, Jz, sm_rf t d)) (hk0 : ∀ (I : sm_MI) (J : sm_MJ), k0 I J = some (Iz, Jz) → sm_W sm_sh X (sm_C sm_sh X sm_P D) me_167 Q (0, [some (.ref 61), none], [], 0, 0) (I, J, sm_rf t d)) : sm_W sm_sh X (sm_C sm_sh X sm_P D) me_167 Q (17, [some (.ref 61), none], [], 0, 0) (I, J, sm_rf t d) := by
  unfold F_Mo_goes_17 at h
  refine sm_W.runL (sm_C_mono D) 6 (G := True) (e := (sd_up I 61 20 ((I 61 20) + (1 : Int32)))) (fr' := fun _ => (23, [some (.ref 61), none], [], 0, 0)) (M' := fun I1 => (I1, J, sm_rf t d)) rfl h trivial (fun I1 h => ?_)
  refine sm_W.run (sm_C_mono D) 1 (G := True) (fr' := (0, [some (.ref 61), none], [], 0, 0)) (M' := (I1, J, sm_rf t d)) rfl trivial ?_
  exact (hk0 _ _ h)
theorem G_Mo_goes_0B {X : Nat × (Nat → Int32)} {t d D : Nat} {Q : sm_Q} {I : sm_MI} {J : sm_MJ} {k0 : sm_MI → sm_MJ → Option (sm_MI × sm_MJ)} {Iz : sm_MI} {Jz : sm_MJ}
    (hD : 1 ≤ D) (h : F_Mo_goes_0B k0 I J = some (Iz, Jz)) (hQ : Q (.inl none) (Iz, Jz, sm_rf t d)) (hk0 : ∀ (I : sm_MI) (J : sm_MJ), k0 I J = some (Iz, Jz) → sm_W sm_sh X (sm_C sm_sh X sm_P D) me_167 Q (0, [some (.ref 61), none], [], 0, 0) (I, J, sm_rf t d)) : sm_W sm_sh X (sm_C sm_sh X sm_P D) me_167 Q (0, [some (.ref 61), none], [], 0, 0) (I, J, sm_rf t d) := by
  unfold F_Mo_goes_0B at h
  refine sm_W.run (sm_C_mono D) 5 (G := True) (fr' := (if decide ((I 61 19) ≤ (I 61 20)) = true then 24 else 5, [some (.ref 61), none], [], 0, 0)) (M' := (I, J, sm_rf t d)) rfl trivial (sm_W.iteD h (fun hc h => ?_) (fun hc h => ?_))
  · exact (G_Mo_goes_24 hD h hQ)
  · refine sm_W.run (sm_C_mono D) 3 (G := True) (fr' := (8, [some (.ref 61), none], [.int (I 61 20), .ref 61], 0, 0)) (M' := (I, J, sm_rf t d)) rfl trivial ?_
    obtain ⟨r1, hc, h⟩ := sd_q1_go h
    refine sm_W.cal (sm_C_mono D) (y := 164) (as := [.ref 61, .int (I 61 20)]) (fr' := (9, [some (.ref 61), none], [], 0, 0)) rfl (T_Mo_byteAt (by omega) hc ?_)
    show sm_W sm_sh X (sm_C sm_sh X sm_P D) me_167 Q (9, [some (.ref 61), none], [.int r1], 0, 0) (I, J, sm_rf t d)
    refine sm_W.run (sm_C_mono D) 2 (G := True) (fr' := (if decide (r1 = (32 : Int32)) = true then 17 else 11, [some (.ref 61), none], [], 0, 0)) (M' := (I, J, sm_rf t d)) rfl trivial (sm_W.iteD h (fun hc h => ?_) (fun hc h => ?_))
    · exact (G_Mo_goes_17 hD h hQ hk0)
    · refine sm_W.run (sm_C_mono D) 3 (G := True) (fr' := (14, [some (.ref 61), none], [.int (I 61 20), .ref 61], 0, 0)) (M' := (I, J, sm_rf t d)) rfl trivial ?_
      obtain ⟨r2, hc, h⟩ := sd_q1_go h
      refine sm_W.cal (sm_C_mono D) (y := 164) (as := [.ref 61, .int (I 61 20)]) (fr' := (15, [some (.ref 61), none], [], 0, 0)) rfl (T_Mo_byteAt (by omega) hc ?_)
      show sm_W sm_sh X (sm_C sm_sh X sm_P D) me_167 Q (15, [some (.ref 61), none], [.int r2], 0, 0) (I, J, sm_rf t d)
      refine sm_W.run (sm_C_mono D) 2 (G := True) (fr' := (if decide (¬ r2 = (10 : Int32)) = true then 24 else 17, [some (.ref 61), none], [], 0, 0)) (M' := (I, J, sm_rf t d)) rfl trivial (sm_W.iteD h (fun hc h => ?_) (fun hc h => ?_))
      · exact (G_Mo_goes_24 hD h hQ)
      · exact (G_Mo_goes_17 hD h hQ hk0)
theorem G_Mo_goes_0 {X : Nat × (Nat → Int32)} {t d D : Nat} {Q : sm_Q} {Iz : sm_MI} {Jz : sm_MJ}
    (hD : 1 ≤ D) (hQ : Q (.inl none) (Iz, Jz, sm_rf t d))  : ∀ (n : Nat) (I : sm_MI) (J : sm_MJ), F_Mo_goes_0 n I J = some (Iz, Jz) → sm_W sm_sh X (sm_C sm_sh X sm_P D) me_167 Q (0, [some (.ref 61), none], [], 0, 0) (I, J, sm_rf t d) := by
  intro n
  induction n with
  | zero => intro I J h; cases (show (none : Option (sm_MI × sm_MJ)) = some (Iz, Jz) from h)
  | succ n ih => intro I J h; exact G_Mo_goes_0B hD (show F_Mo_goes_0B (F_Mo_goes_0 n) I J = some (Iz, Jz) from h) hQ  ih
theorem T_Mo_goes {X : Nat × (Nat → Int32)} {t d D : Nat} {Q : sm_Q} {I : sm_MI} {J : sm_MJ} {Iz : sm_MI} {Jz : sm_MJ}
    (hD : 2 ≤ D) (h : F_Mo_goes I J = some (Iz, Jz)) (hQ : Q (.inl none) (Iz, Jz, sm_rf t d)) : sm_C sm_sh X sm_P D 167 [.ref 61] (I, J, sm_rf t d) Q := by
  cases D with
  | zero => omega
  | succ D => exact sm_C.of (me := me_167) (L := [some (.ref 61), none]) rfl rfl rfl (sm_W.forget (L' := [some (.ref 61), none]) ⟨rfl, trivial⟩ (G_Mo_goes_0 (by omega) hQ sd_fu _ _ h))
-- 168 Mo_spelled
noncomputable def F_Mo_spelled_56 (x6 : Int32) (x7 : Int64) : Option (Int64) :=
  if x6 = 0 then
    some (x7)
  else
    sd_lt ((x7 <<< (Int32.toInt64 (5 : Int32) &&& 63)) ||| (Int32.toInt64 (x6 - (96 : Int32)))) fun a1 =>
    some (a1)
noncomputable def F_Mo_spelled_45 (x5 : Int32) (x6 : Int32) (x7 : Int64) : Option (Int64) :=
  if x5 = 0 then
    F_Mo_spelled_56 x6 x7
  else
    sd_lt ((x7 <<< (Int32.toInt64 (5 : Int32) &&& 63)) ||| (Int32.toInt64 (x5 - (96 : Int32)))) fun a1 =>
    F_Mo_spelled_56 x6 a1
noncomputable def F_Mo_spelled_34 (x4 : Int32) (x5 : Int32) (x6 : Int32) (x7 : Int64) : Option (Int64) :=
  if x4 = 0 then
    F_Mo_spelled_45 x5 x6 x7
  else
    sd_lt ((x7 <<< (Int32.toInt64 (5 : Int32) &&& 63)) ||| (Int32.toInt64 (x4 - (96 : Int32)))) fun a1 =>
    F_Mo_spelled_45 x5 x6 a1
noncomputable def F_Mo_spelled_23 (x3 : Int32) (x4 : Int32) (x5 : Int32) (x6 : Int32) (x7 : Int64) : Option (Int64) :=
  if x3 = 0 then
    F_Mo_spelled_34 x4 x5 x6 x7
  else
    sd_lt ((x7 <<< (Int32.toInt64 (5 : Int32) &&& 63)) ||| (Int32.toInt64 (x3 - (96 : Int32)))) fun a1 =>
    F_Mo_spelled_34 x4 x5 x6 a1
noncomputable def F_Mo_spelled (x0 : Int32) (x1 : Int32) (x2 : Int32) (x3 : Int32) (x4 : Int32) (x5 : Int32) (x6 : Int32) : Option (Int64) :=
  sd_lt ((((Int32.toInt64 x0) - (96 : Int64)) <<< (Int32.toInt64 (5 : Int32) &&& 63)) ||| (Int32.toInt64 (x1 - (96 : Int32)))) fun a1 =>
  if x2 = 0 then
    F_Mo_spelled_23 x3 x4 x5 x6 a1
  else
    sd_lt ((a1 <<< (Int32.toInt64 (5 : Int32) &&& 63)) ||| (Int32.toInt64 (x2 - (96 : Int32)))) fun a2 =>
    F_Mo_spelled_23 x3 x4 x5 x6 a2
theorem G_Mo_spelled_56 {X : Nat × (Nat → Int32)} {t d D : Nat} {Q : sm_Q} {I : sm_MI} {J : sm_MJ} {x6 : Int32} {x7 : Int64} {rz : Int64}
    (hD : 0 ≤ D) (h : F_Mo_spelled_56 x6 x7 = some (rz)) (hQ : Q (.inl (some (.long rz))) (I, J, sm_rf t d))  : sm_W sm_sh X (sm_C sm_sh X sm_P D) me_168 Q (56, [none, none, none, none, none, none, some (.int x6), some (.long x7), none], [], 0, 0) (I, J, sm_rf t d) := by
  unfold F_Mo_spelled_56 at h
  refine sm_W.run (sm_C_mono D) 2 (G := True) (fr' := (if decide (x6 = 0) = true then 67 else 58, [none, none, none, none, none, none, some (.int x6), some (.long x7), none], [], 0, 0)) (M' := (I, J, sm_rf t d)) rfl trivial (sm_W.iteD h (fun hc h => ?_) (fun hc h => ?_))
  · refine sm_W.run (sm_C_mono D) 1 (G := True) (fr' := (68, [none, none, none, none, none, none, some (.int x6), some (.long x7), none], [.long x7], 0, 0)) (M' := (I, J, sm_rf t d)) rfl trivial ?_
    cases h
    exact sm_W.ret (sm_C_mono D) rfl hQ
  · refine sm_W.runL (sm_C_mono D) 9 (G := True) (e := ((x7 <<< (Int32.toInt64 (5 : Int32) &&& 63)) ||| (Int32.toInt64 (x6 - (96 : Int32))))) (fr' := fun a1 => (67, [none, none, none, none, none, none, some (.int x6), some (.long a1), none], [], 0, 0)) (M' := fun _ => (I, J, sm_rf t d)) rfl h trivial (fun a1 h => ?_)
    refine sm_W.run (sm_C_mono D) 1 (G := True) (fr' := (68, [none, none, none, none, none, none, some (.int x6), some (.long a1), none], [.long a1], 0, 0)) (M' := (I, J, sm_rf t d)) rfl trivial ?_
    cases h
    exact sm_W.ret (sm_C_mono D) rfl hQ
theorem G_Mo_spelled_45 {X : Nat × (Nat → Int32)} {t d D : Nat} {Q : sm_Q} {I : sm_MI} {J : sm_MJ} {x5 : Int32} {x6 : Int32} {x7 : Int64} {rz : Int64}
    (hD : 0 ≤ D) (h : F_Mo_spelled_45 x5 x6 x7 = some (rz)) (hQ : Q (.inl (some (.long rz))) (I, J, sm_rf t d))  : sm_W sm_sh X (sm_C sm_sh X sm_P D) me_168 Q (45, [none, none, none, none, none, some (.int x5), some (.int x6), some (.long x7), none], [], 0, 0) (I, J, sm_rf t d) := by
  unfold F_Mo_spelled_45 at h
  refine sm_W.run (sm_C_mono D) 2 (G := True) (fr' := (if decide (x5 = 0) = true then 56 else 47, [none, none, none, none, none, some (.int x5), some (.int x6), some (.long x7), none], [], 0, 0)) (M' := (I, J, sm_rf t d)) rfl trivial (sm_W.iteD h (fun hc h => ?_) (fun hc h => ?_))
  · exact sm_W.forget (L' := [none, none, none, none, none, none, some (.int x6), some (.long x7), none]) ⟨rfl, ⟨rfl, trivial⟩⟩ (G_Mo_spelled_56 hD h hQ)
  · refine sm_W.runL (sm_C_mono D) 9 (G := True) (e := ((x7 <<< (Int32.toInt64 (5 : Int32) &&& 63)) ||| (Int32.toInt64 (x5 - (96 : Int32))))) (fr' := fun a1 => (56, [none, none, none, none, none, some (.int x5), some (.int x6), some (.long a1), none], [], 0, 0)) (M' := fun _ => (I, J, sm_rf t d)) rfl h trivial (fun a1 h => ?_)
    exact sm_W.forget (L' := [none, none, none, none, none, none, some (.int x6), some (.long a1), none]) ⟨rfl, ⟨rfl, trivial⟩⟩ (G_Mo_spelled_56 hD h hQ)
theorem G_Mo_spelled_34 {X : Nat × (Nat → Int32)} {t d D : Nat} {Q : sm_Q} {I : sm_MI} {J : sm_MJ} {x4 : Int32} {x5 : Int32} {x6 : Int32} {x7 : Int64} {rz : Int64}
    (hD : 0 ≤ D) (h : F_Mo_spelled_34 x4 x5 x6 x7 = some (rz)) (hQ : Q (.inl (some (.long rz))) (I, J, sm_rf t d))  : sm_W sm_sh X (sm_C sm_sh X sm_P D) me_168 Q (34, [none, none, none, none, some (.int x4), some (.int x5), some (.int x6), some (.long x7), none], [], 0, 0) (I, J, sm_rf t d) := by
  unfold F_Mo_spelled_34 at h
  refine sm_W.run (sm_C_mono D) 2 (G := True) (fr' := (if decide (x4 = 0) = true then 45 else 36, [none, none, none, none, some (.int x4), some (.int x5), some (.int x6), some (.long x7), none], [], 0, 0)) (M' := (I, J, sm_rf t d)) rfl trivial (sm_W.iteD h (fun hc h => ?_) (fun hc h => ?_))
  · exact sm_W.forget (L' := [none, none, none, none, none, some (.int x5), some (.int x6), some (.long x7), none]) ⟨rfl, ⟨rfl, ⟨rfl, trivial⟩⟩⟩ (G_Mo_spelled_45 hD h hQ)
  · refine sm_W.runL (sm_C_mono D) 9 (G := True) (e := ((x7 <<< (Int32.toInt64 (5 : Int32) &&& 63)) ||| (Int32.toInt64 (x4 - (96 : Int32))))) (fr' := fun a1 => (45, [none, none, none, none, some (.int x4), some (.int x5), some (.int x6), some (.long a1), none], [], 0, 0)) (M' := fun _ => (I, J, sm_rf t d)) rfl h trivial (fun a1 h => ?_)
    exact sm_W.forget (L' := [none, none, none, none, none, some (.int x5), some (.int x6), some (.long a1), none]) ⟨rfl, ⟨rfl, ⟨rfl, trivial⟩⟩⟩ (G_Mo_spelled_45 hD h hQ)
theorem G_Mo_spelled_23 {X : Nat × (Nat → Int32)} {t d D : Nat} {Q : sm_Q} {I : sm_MI} {J : sm_MJ} {x3 : Int32} {x4 : Int32} {x5 : Int32} {x6 : Int32} {x7 : Int64} {rz : Int64}
    (hD : 0 ≤ D) (h : F_Mo_spelled_23 x3 x4 x5 x6 x7 = some (rz)) (hQ : Q (.inl (some (.long rz))) (I, J, sm_rf t d))  : sm_W sm_sh X (sm_C sm_sh X sm_P D) me_168 Q (23, [none, none, none, some (.int x3), some (.int x4), some (.int x5), some (.int x6), some (.long x7), none], [], 0, 0) (I, J, sm_rf t d) := by
  unfold F_Mo_spelled_23 at h
  refine sm_W.run (sm_C_mono D) 2 (G := True) (fr' := (if decide (x3 = 0) = true then 34 else 25, [none, none, none, some (.int x3), some (.int x4), some (.int x5), some (.int x6), some (.long x7), none], [], 0, 0)) (M' := (I, J, sm_rf t d)) rfl trivial (sm_W.iteD h (fun hc h => ?_) (fun hc h => ?_))
  · exact sm_W.forget (L' := [none, none, none, none, some (.int x4), some (.int x5), some (.int x6), some (.long x7), none]) ⟨rfl, ⟨rfl, ⟨rfl, ⟨rfl, trivial⟩⟩⟩⟩ (G_Mo_spelled_34 hD h hQ)
  · refine sm_W.runL (sm_C_mono D) 9 (G := True) (e := ((x7 <<< (Int32.toInt64 (5 : Int32) &&& 63)) ||| (Int32.toInt64 (x3 - (96 : Int32))))) (fr' := fun a1 => (34, [none, none, none, some (.int x3), some (.int x4), some (.int x5), some (.int x6), some (.long a1), none], [], 0, 0)) (M' := fun _ => (I, J, sm_rf t d)) rfl h trivial (fun a1 h => ?_)
    exact sm_W.forget (L' := [none, none, none, none, some (.int x4), some (.int x5), some (.int x6), some (.long a1), none]) ⟨rfl, ⟨rfl, ⟨rfl, ⟨rfl, trivial⟩⟩⟩⟩ (G_Mo_spelled_34 hD h hQ)
theorem G_Mo_spelled {X : Nat × (Nat → Int32)} {t d D : Nat} {Q : sm_Q} {I : sm_MI} {J : sm_MJ} {x0 : Int32} {x1 : Int32} {x2 : Int32} {x3 : Int32} {x4 : Int32} {x5 : Int32} {x6 : Int32} {rz : Int64}
    (hD : 0 ≤ D) (h : F_Mo_spelled x0 x1 x2 x3 x4 x5 x6 = some (rz)) (hQ : Q (.inl (some (.long rz))) (I, J, sm_rf t d))  : sm_W sm_sh X (sm_C sm_sh X sm_P D) me_168 Q (0, [some (.int x0), some (.int x1), some (.int x2), some (.int x3), some (.int x4), some (.int x5), some (.int x6), none, none], [], 0, 0) (I, J, sm_rf t d) := by
  unfold F_Mo_spelled at h
  refine sm_W.runL (sm_C_mono D) 12 (G := True) (e := ((((Int32.toInt64 x0) - (96 : Int64)) <<< (Int32.toInt64 (5 : Int32) &&& 63)) ||| (Int32.toInt64 (x1 - (96 : Int32))))) (fr' := fun a1 => (12, [some (.int x0), some (.int x1), some (.int x2), some (.int x3), some (.int x4), some (.int x5), some (.int x6), some (.long a1), none], [], 0, 0)) (M' := fun _ => (I, J, sm_rf t d)) rfl h trivial (fun a1 h => ?_)
  refine sm_W.run (sm_C_mono D) 2 (G := True) (fr' := (if decide (x2 = 0) = true then 23 else 14, [some (.int x0), some (.int x1), some (.int x2), some (.int x3), some (.int x4), some (.int x5), some (.int x6), some (.long a1), none], [], 0, 0)) (M' := (I, J, sm_rf t d)) rfl trivial (sm_W.iteD h (fun hc h => ?_) (fun hc h => ?_))
  · exact sm_W.forget (L' := [none, none, none, some (.int x3), some (.int x4), some (.int x5), some (.int x6), some (.long a1), none]) ⟨rfl, ⟨rfl, ⟨rfl, ⟨rfl, ⟨rfl, trivial⟩⟩⟩⟩⟩ (G_Mo_spelled_23 hD h hQ)
  · refine sm_W.runL (sm_C_mono D) 9 (G := True) (e := ((a1 <<< (Int32.toInt64 (5 : Int32) &&& 63)) ||| (Int32.toInt64 (x2 - (96 : Int32))))) (fr' := fun a2 => (23, [some (.int x0), some (.int x1), some (.int x2), some (.int x3), some (.int x4), some (.int x5), some (.int x6), some (.long a2), none], [], 0, 0)) (M' := fun _ => (I, J, sm_rf t d)) rfl h trivial (fun a2 h => ?_)
    exact sm_W.forget (L' := [none, none, none, some (.int x3), some (.int x4), some (.int x5), some (.int x6), some (.long a2), none]) ⟨rfl, ⟨rfl, ⟨rfl, ⟨rfl, ⟨rfl, trivial⟩⟩⟩⟩⟩ (G_Mo_spelled_23 hD h hQ)
theorem T_Mo_spelled {X : Nat × (Nat → Int32)} {t d D : Nat} {Q : sm_Q} {I : sm_MI} {J : sm_MJ} {x0 : Int32} {x1 : Int32} {x2 : Int32} {x3 : Int32} {x4 : Int32} {x5 : Int32} {x6 : Int32} {rz : Int64}
    (hD : 1 ≤ D) (h : F_Mo_spelled x0 x1 x2 x3 x4 x5 x6 = some (rz)) (hQ : Q (.inl (some (.long rz))) (I, J, sm_rf t d)) : sm_C sm_sh X sm_P D 168 [.int x0, .int x1, .int x2, .int x3, .int x4, .int x5, .int x6] (I, J, sm_rf t d) Q := by
  cases D with
  | zero => omega
  | succ D => exact sm_C.of (me := me_168) (L := [some (.int x0), some (.int x1), some (.int x2), some (.int x3), some (.int x4), some (.int x5), some (.int x6), none, none]) rfl rfl rfl (sm_W.forget (L' := [some (.int x0), some (.int x1), some (.int x2), some (.int x3), some (.int x4), some (.int x5), some (.int x6), none, none]) ⟨rfl, ⟨rfl, ⟨rfl, ⟨rfl, ⟨rfl, ⟨rfl, ⟨rfl, trivial⟩⟩⟩⟩⟩⟩⟩ (G_Mo_spelled (by omega) h hQ))
-- 169 Mo_letters
noncomputable def F_Mo_letters (x0 : Int32) : Option (Int64) :=
  if x0 = (0 : Int32) then
    sd_q1 (F_Mo_spelled (100 : Int32) (97 : Int32) (121 : Int32) (0 : Int32) (0 : Int32) (0 : Int32) (0 : Int32)) fun r1 =>
    some (r1)
  else if x0 = (1 : Int32) then
    sd_q1 (F_Mo_spelled (115 : Int32) (117 : Int32) (110 : Int32) (103 : Int32) (0 : Int32) (0 : Int32) (0 : Int32)) fun r2 =>
    some (r2)
  else if x0 = (2 : Int32) then
    sd_q1 (F_Mo_spelled (111 : Int32) (119 : Int32) (110 : Int32) (0 : Int32) (0 : Int32) (0 : Int32) (0 : Int32)) fun r3 =>
    some (r3)
  else if x0 = (3 : Int32) then
    sd_q1 (F_Mo_spelled (111 : Int32) (116 : Int32) (104 : Int32) (101 : Int32) (114 : Int32) (0 : Int32) (0 : Int32)) fun r4 =>
    some (r4)
  else if x0 = (4 : Int32) then
    sd_q1 (F_Mo_spelled (102 : Int32) (97 : Int32) (108 : Int32) (108 : Int32) (101 : Int32) (110 : Int32) (0 : Int32)) fun r5 =>
    some (r5)
  else if x0 = (5 : Int32) then
    sd_q1 (F_Mo_spelled (99 : Int32) (97 : Int32) (110 : Int32) (0 : Int32) (0 : Int32) (0 : Int32) (0 : Int32)) fun r6 =>
    some (r6)
  else if x0 = (6 : Int32) then
    sd_q1 (F_Mo_spelled (115 : Int32) (107 : Int32) (105 : Int32) (108 : Int32) (108 : Int32) (0 : Int32) (0 : Int32)) fun r7 =>
    some (r7)
  else if x0 = (7 : Int32) then
    sd_q1 (F_Mo_spelled (112 : Int32) (97 : Int32) (114 : Int32) (116 : Int32) (0 : Int32) (0 : Int32) (0 : Int32)) fun r8 =>
    some (r8)
  else if x0 = (8 : Int32) then
    sd_q1 (F_Mo_spelled (115 : Int32) (105 : Int32) (110 : Int32) (103 : Int32) (101 : Int32) (114 : Int32) (0 : Int32)) fun r9 =>
    some (r9)
  else if x0 = (9 : Int32) then
    sd_q1 (F_Mo_spelled (116 : Int32) (111 : Int32) (110 : Int32) (101 : Int32) (0 : Int32) (0 : Int32) (0 : Int32)) fun r10 =>
    some (r10)
  else if x0 = (10 : Int32) then
    sd_q1 (F_Mo_spelled (110 : Int32) (111 : Int32) (114 : Int32) (116 : Int32) (104 : Int32) (0 : Int32) (0 : Int32)) fun r11 =>
    some (r11)
  else if x0 = (11 : Int32) then
    sd_q1 (F_Mo_spelled (115 : Int32) (111 : Int32) (117 : Int32) (116 : Int32) (104 : Int32) (0 : Int32) (0 : Int32)) fun r12 =>
    some (r12)
  else if x0 = (12 : Int32) then
    sd_q1 (F_Mo_spelled (110 : Int32) (101 : Int32) (117 : Int32) (116 : Int32) (114 : Int32) (97 : Int32) (108 : Int32)) fun r13 =>
    some (r13)
  else if x0 = (13 : Int32) then
    sd_q1 (F_Mo_spelled (115 : Int32) (111 : Int32) (112 : Int32) (114 : Int32) (97 : Int32) (110 : Int32) (111 : Int32)) fun r14 =>
    some (r14)
  else if x0 = (14 : Int32) then
    sd_q1 (F_Mo_spelled (97 : Int32) (108 : Int32) (116 : Int32) (111 : Int32) (0 : Int32) (0 : Int32) (0 : Int32)) fun r15 =>
    some (r15)
  else if x0 = (15 : Int32) then
    sd_q1 (F_Mo_spelled (116 : Int32) (101 : Int32) (110 : Int32) (111 : Int32) (114 : Int32) (0 : Int32) (0 : Int32)) fun r16 =>
    some (r16)
  else if x0 = (16 : Int32) then
    sd_q1 (F_Mo_spelled (98 : Int32) (97 : Int32) (115 : Int32) (115 : Int32) (0 : Int32) (0 : Int32) (0 : Int32)) fun r17 =>
    some (r17)
  else if x0 = (17 : Int32) then
    sd_q1 (F_Mo_spelled (112 : Int32) (105 : Int32) (101 : Int32) (99 : Int32) (101 : Int32) (0 : Int32) (0 : Int32)) fun r18 =>
    some (r18)
  else if x0 = (18 : Int32) then
    sd_q1 (F_Mo_spelled (101 : Int32) (118 : Int32) (101 : Int32) (114 : Int32) (121 : Int32) (0 : Int32) (0 : Int32)) fun r19 =>
    some (r19)
  else if x0 = (19 : Int32) then
    sd_q1 (F_Mo_spelled (116 : Int32) (114 : Int32) (117 : Int32) (99 : Int32) (101 : Int32) (0 : Int32) (0 : Int32)) fun r20 =>
    some (r20)
  else if x0 = (20 : Int32) then
    sd_q1 (F_Mo_spelled (97 : Int32) (105 : Int32) (109 : Int32) (0 : Int32) (0 : Int32) (0 : Int32) (0 : Int32)) fun r21 =>
    some (r21)
  else if x0 = (21 : Int32) then
    sd_q1 (F_Mo_spelled (97 : Int32) (110 : Int32) (100 : Int32) (0 : Int32) (0 : Int32) (0 : Int32) (0 : Int32)) fun r22 =>
    some (r22)
  else if x0 = (22 : Int32) then
    sd_q1 (F_Mo_spelled (111 : Int32) (114 : Int32) (0 : Int32) (0 : Int32) (0 : Int32) (0 : Int32) (0 : Int32)) fun r23 =>
    some (r23)
  else 
    sd_q1 (F_Mo_spelled (110 : Int32) (111 : Int32) (116 : Int32) (0 : Int32) (0 : Int32) (0 : Int32) (0 : Int32)) fun r24 =>
    some (r24)
theorem G_Mo_letters {X : Nat × (Nat → Int32)} {t d D : Nat} {Q : sm_Q} {I : sm_MI} {J : sm_MJ} {x0 : Int32} {rz : Int64}
    (hD : 1 ≤ D) (h : F_Mo_letters x0 = some (rz)) (hQ : Q (.inl (some (.long rz))) (I, J, sm_rf t d))  : sm_W sm_sh X (sm_C sm_sh X sm_P D) me_169 Q (0, [some (.int x0)], [], 0, 0) (I, J, sm_rf t d) := by
  unfold F_Mo_letters at h
  refine sm_W.run (sm_C_mono D) 2 (G := True) (fr' := (sm_sw (Int32.toInt x0) (0) [2, 11, 20, 29, 38, 47, 56, 65, 74, 83, 92, 101, 110, 119, 128, 137, 146, 155, 164, 173, 182, 191, 200] 209, [some (.int x0)], [], 0, 0)) (M' := (I, J, sm_rf t d)) rfl trivial ?_
  rw [sd_sw_eq]
  refine sm_W.swS (c := (0 : Int32)) (by decide) h (fun h => ?_) (fun h => ?_)
  · refine sm_W.run (sm_C_mono D) 7 (G := True) (fr' := (9, [some (.int x0)], [.int (0 : Int32), .int (0 : Int32), .int (0 : Int32), .int (0 : Int32), .int (121 : Int32), .int (97 : Int32), .int (100 : Int32)], 0, 0)) (M' := (I, J, sm_rf t d)) rfl trivial ?_
    obtain ⟨r1, hc, h⟩ := sd_q1_go h
    refine sm_W.cal (sm_C_mono D) (y := 168) (as := [.int (100 : Int32), .int (97 : Int32), .int (121 : Int32), .int (0 : Int32), .int (0 : Int32), .int (0 : Int32), .int (0 : Int32)]) (fr' := (10, [some (.int x0)], [], 0, 0)) rfl (T_Mo_spelled (by omega) hc ?_)
    show sm_W sm_sh X (sm_C sm_sh X sm_P D) me_169 Q (10, [some (.int x0)], [.long r1], 0, 0) (I, J, sm_rf t d)
    cases h
    exact sm_W.ret (sm_C_mono D) rfl hQ
  refine sm_W.swS (c := (1 : Int32)) (by decide) h (fun h => ?_) (fun h => ?_)
  · refine sm_W.run (sm_C_mono D) 7 (G := True) (fr' := (18, [some (.int x0)], [.int (0 : Int32), .int (0 : Int32), .int (0 : Int32), .int (103 : Int32), .int (110 : Int32), .int (117 : Int32), .int (115 : Int32)], 0, 0)) (M' := (I, J, sm_rf t d)) rfl trivial ?_
    obtain ⟨r2, hc, h⟩ := sd_q1_go h
    refine sm_W.cal (sm_C_mono D) (y := 168) (as := [.int (115 : Int32), .int (117 : Int32), .int (110 : Int32), .int (103 : Int32), .int (0 : Int32), .int (0 : Int32), .int (0 : Int32)]) (fr' := (19, [some (.int x0)], [], 0, 0)) rfl (T_Mo_spelled (by omega) hc ?_)
    show sm_W sm_sh X (sm_C sm_sh X sm_P D) me_169 Q (19, [some (.int x0)], [.long r2], 0, 0) (I, J, sm_rf t d)
    cases h
    exact sm_W.ret (sm_C_mono D) rfl hQ
  refine sm_W.swS (c := (2 : Int32)) (by decide) h (fun h => ?_) (fun h => ?_)
  · refine sm_W.run (sm_C_mono D) 7 (G := True) (fr' := (27, [some (.int x0)], [.int (0 : Int32), .int (0 : Int32), .int (0 : Int32), .int (0 : Int32), .int (110 : Int32), .int (119 : Int32), .int (111 : Int32)], 0, 0)) (M' := (I, J, sm_rf t d)) rfl trivial ?_
    obtain ⟨r3, hc, h⟩ := sd_q1_go h
    refine sm_W.cal (sm_C_mono D) (y := 168) (as := [.int (111 : Int32), .int (119 : Int32), .int (110 : Int32), .int (0 : Int32), .int (0 : Int32), .int (0 : Int32), .int (0 : Int32)]) (fr' := (28, [some (.int x0)], [], 0, 0)) rfl (T_Mo_spelled (by omega) hc ?_)
    show sm_W sm_sh X (sm_C sm_sh X sm_P D) me_169 Q (28, [some (.int x0)], [.long r3], 0, 0) (I, J, sm_rf t d)
    cases h
    exact sm_W.ret (sm_C_mono D) rfl hQ
  refine sm_W.swS (c := (3 : Int32)) (by decide) h (fun h => ?_) (fun h => ?_)
  · refine sm_W.run (sm_C_mono D) 7 (G := True) (fr' := (36, [some (.int x0)], [.int (0 : Int32), .int (0 : Int32), .int (114 : Int32), .int (101 : Int32), .int (104 : Int32), .int (116 : Int32), .int (111 : Int32)], 0, 0)) (M' := (I, J, sm_rf t d)) rfl trivial ?_
    obtain ⟨r4, hc, h⟩ := sd_q1_go h
    refine sm_W.cal (sm_C_mono D) (y := 168) (as := [.int (111 : Int32), .int (116 : Int32), .int (104 : Int32), .int (101 : Int32), .int (114 : Int32), .int (0 : Int32), .int (0 : Int32)]) (fr' := (37, [some (.int x0)], [], 0, 0)) rfl (T_Mo_spelled (by omega) hc ?_)
    show sm_W sm_sh X (sm_C sm_sh X sm_P D) me_169 Q (37, [some (.int x0)], [.long r4], 0, 0) (I, J, sm_rf t d)
    cases h
    exact sm_W.ret (sm_C_mono D) rfl hQ
  refine sm_W.swS (c := (4 : Int32)) (by decide) h (fun h => ?_) (fun h => ?_)
  · refine sm_W.run (sm_C_mono D) 7 (G := True) (fr' := (45, [some (.int x0)], [.int (0 : Int32), .int (110 : Int32), .int (101 : Int32), .int (108 : Int32), .int (108 : Int32), .int (97 : Int32), .int (102 : Int32)], 0, 0)) (M' := (I, J, sm_rf t d)) rfl trivial ?_
    obtain ⟨r5, hc, h⟩ := sd_q1_go h
    refine sm_W.cal (sm_C_mono D) (y := 168) (as := [.int (102 : Int32), .int (97 : Int32), .int (108 : Int32), .int (108 : Int32), .int (101 : Int32), .int (110 : Int32), .int (0 : Int32)]) (fr' := (46, [some (.int x0)], [], 0, 0)) rfl (T_Mo_spelled (by omega) hc ?_)
    show sm_W sm_sh X (sm_C sm_sh X sm_P D) me_169 Q (46, [some (.int x0)], [.long r5], 0, 0) (I, J, sm_rf t d)
    cases h
    exact sm_W.ret (sm_C_mono D) rfl hQ
  refine sm_W.swS (c := (5 : Int32)) (by decide) h (fun h => ?_) (fun h => ?_)
  · refine sm_W.run (sm_C_mono D) 7 (G := True) (fr' := (54, [some (.int x0)], [.int (0 : Int32), .int (0 : Int32), .int (0 : Int32), .int (0 : Int32), .int (110 : Int32), .int (97 : Int32), .int (99 : Int32)], 0, 0)) (M' := (I, J, sm_rf t d)) rfl trivial ?_
    obtain ⟨r6, hc, h⟩ := sd_q1_go h
    refine sm_W.cal (sm_C_mono D) (y := 168) (as := [.int (99 : Int32), .int (97 : Int32), .int (110 : Int32), .int (0 : Int32), .int (0 : Int32), .int (0 : Int32), .int (0 : Int32)]) (fr' := (55, [some (.int x0)], [], 0, 0)) rfl (T_Mo_spelled (by omega) hc ?_)
    show sm_W sm_sh X (sm_C sm_sh X sm_P D) me_169 Q (55, [some (.int x0)], [.long r6], 0, 0) (I, J, sm_rf t d)
    cases h
    exact sm_W.ret (sm_C_mono D) rfl hQ
  refine sm_W.swS (c := (6 : Int32)) (by decide) h (fun h => ?_) (fun h => ?_)
  · refine sm_W.run (sm_C_mono D) 7 (G := True) (fr' := (63, [some (.int x0)], [.int (0 : Int32), .int (0 : Int32), .int (108 : Int32), .int (108 : Int32), .int (105 : Int32), .int (107 : Int32), .int (115 : Int32)], 0, 0)) (M' := (I, J, sm_rf t d)) rfl trivial ?_
    obtain ⟨r7, hc, h⟩ := sd_q1_go h
    refine sm_W.cal (sm_C_mono D) (y := 168) (as := [.int (115 : Int32), .int (107 : Int32), .int (105 : Int32), .int (108 : Int32), .int (108 : Int32), .int (0 : Int32), .int (0 : Int32)]) (fr' := (64, [some (.int x0)], [], 0, 0)) rfl (T_Mo_spelled (by omega) hc ?_)
    show sm_W sm_sh X (sm_C sm_sh X sm_P D) me_169 Q (64, [some (.int x0)], [.long r7], 0, 0) (I, J, sm_rf t d)
    cases h
    exact sm_W.ret (sm_C_mono D) rfl hQ
  refine sm_W.swS (c := (7 : Int32)) (by decide) h (fun h => ?_) (fun h => ?_)
  · refine sm_W.run (sm_C_mono D) 7 (G := True) (fr' := (72, [some (.int x0)], [.int (0 : Int32), .int (0 : Int32), .int (0 : Int32), .int (116 : Int32), .int (114 : Int32), .int (97 : Int32), .int (112 : Int32)], 0, 0)) (M' := (I, J, sm_rf t d)) rfl trivial ?_
    obtain ⟨r8, hc, h⟩ := sd_q1_go h
    refine sm_W.cal (sm_C_mono D) (y := 168) (as := [.int (112 : Int32), .int (97 : Int32), .int (114 : Int32), .int (116 : Int32), .int (0 : Int32), .int (0 : Int32), .int (0 : Int32)]) (fr' := (73, [some (.int x0)], [], 0, 0)) rfl (T_Mo_spelled (by omega) hc ?_)
    show sm_W sm_sh X (sm_C sm_sh X sm_P D) me_169 Q (73, [some (.int x0)], [.long r8], 0, 0) (I, J, sm_rf t d)
    cases h
    exact sm_W.ret (sm_C_mono D) rfl hQ
  refine sm_W.swS (c := (8 : Int32)) (by decide) h (fun h => ?_) (fun h => ?_)
  · refine sm_W.run (sm_C_mono D) 7 (G := True) (fr' := (81, [some (.int x0)], [.int (0 : Int32), .int (114 : Int32), .int (101 : Int32), .int (103 : Int32), .int (110 : Int32), .int (105 : Int32), .int (115 : Int32)], 0, 0)) (M' := (I, J, sm_rf t d)) rfl trivial ?_
    obtain ⟨r9, hc, h⟩ := sd_q1_go h
    refine sm_W.cal (sm_C_mono D) (y := 168) (as := [.int (115 : Int32), .int (105 : Int32), .int (110 : Int32), .int (103 : Int32), .int (101 : Int32), .int (114 : Int32), .int (0 : Int32)]) (fr' := (82, [some (.int x0)], [], 0, 0)) rfl (T_Mo_spelled (by omega) hc ?_)
    show sm_W sm_sh X (sm_C sm_sh X sm_P D) me_169 Q (82, [some (.int x0)], [.long r9], 0, 0) (I, J, sm_rf t d)
    cases h
    exact sm_W.ret (sm_C_mono D) rfl hQ
  refine sm_W.swS (c := (9 : Int32)) (by decide) h (fun h => ?_) (fun h => ?_)
  · refine sm_W.run (sm_C_mono D) 7 (G := True) (fr' := (90, [some (.int x0)], [.int (0 : Int32), .int (0 : Int32), .int (0 : Int32), .int (101 : Int32), .int (110 : Int32), .int (111 : Int32), .int (116 : Int32)], 0, 0)) (M' := (I, J, sm_rf t d)) rfl trivial ?_
    obtain ⟨r10, hc, h⟩ := sd_q1_go h
    refine sm_W.cal (sm_C_mono D) (y := 168) (as := [.int (116 : Int32), .int (111 : Int32), .int (110 : Int32), .int (101 : Int32), .int (0 : Int32), .int (0 : Int32), .int (0 : Int32)]) (fr' := (91, [some (.int x0)], [], 0, 0)) rfl (T_Mo_spelled (by omega) hc ?_)
    show sm_W sm_sh X (sm_C sm_sh X sm_P D) me_169 Q (91, [some (.int x0)], [.long r10], 0, 0) (I, J, sm_rf t d)
    cases h
    exact sm_W.ret (sm_C_mono D) rfl hQ
  refine sm_W.swS (c := (10 : Int32)) (by decide) h (fun h => ?_) (fun h => ?_)
  · refine sm_W.run (sm_C_mono D) 7 (G := True) (fr' := (99, [some (.int x0)], [.int (0 : Int32), .int (0 : Int32), .int (104 : Int32), .int (116 : Int32), .int (114 : Int32), .int (111 : Int32), .int (110 : Int32)], 0, 0)) (M' := (I, J, sm_rf t d)) rfl trivial ?_
    obtain ⟨r11, hc, h⟩ := sd_q1_go h
    refine sm_W.cal (sm_C_mono D) (y := 168) (as := [.int (110 : Int32), .int (111 : Int32), .int (114 : Int32), .int (116 : Int32), .int (104 : Int32), .int (0 : Int32), .int (0 : Int32)]) (fr' := (100, [some (.int x0)], [], 0, 0)) rfl (T_Mo_spelled (by omega) hc ?_)
    show sm_W sm_sh X (sm_C sm_sh X sm_P D) me_169 Q (100, [some (.int x0)], [.long r11], 0, 0) (I, J, sm_rf t d)
    cases h
    exact sm_W.ret (sm_C_mono D) rfl hQ
  refine sm_W.swS (c := (11 : Int32)) (by decide) h (fun h => ?_) (fun h => ?_)
  · refine sm_W.run (sm_C_mono D) 7 (G := True) (fr' := (108, [some (.int x0)], [.int (0 : Int32), .int (0 : Int32), .int (104 : Int32), .int (116 : Int32), .int (117 : Int32), .int (111 : Int32), .int (115 : Int32)], 0, 0)) (M' := (I, J, sm_rf t d)) rfl trivial ?_
    obtain ⟨r12, hc, h⟩ := sd_q1_go h
    refine sm_W.cal (sm_C_mono D) (y := 168) (as := [.int (115 : Int32), .int (111 : Int32), .int (117 : Int32), .int (116 : Int32), .int (104 : Int32), .int (0 : Int32), .int (0 : Int32)]) (fr' := (109, [some (.int x0)], [], 0, 0)) rfl (T_Mo_spelled (by omega) hc ?_)
    show sm_W sm_sh X (sm_C sm_sh X sm_P D) me_169 Q (109, [some (.int x0)], [.long r12], 0, 0) (I, J, sm_rf t d)
    cases h
    exact sm_W.ret (sm_C_mono D) rfl hQ
  refine sm_W.swS (c := (12 : Int32)) (by decide) h (fun h => ?_) (fun h => ?_)
  · refine sm_W.run (sm_C_mono D) 7 (G := True) (fr' := (117, [some (.int x0)], [.int (108 : Int32), .int (97 : Int32), .int (114 : Int32), .int (116 : Int32), .int (117 : Int32), .int (101 : Int32), .int (110 : Int32)], 0, 0)) (M' := (I, J, sm_rf t d)) rfl trivial ?_
    obtain ⟨r13, hc, h⟩ := sd_q1_go h
    refine sm_W.cal (sm_C_mono D) (y := 168) (as := [.int (110 : Int32), .int (101 : Int32), .int (117 : Int32), .int (116 : Int32), .int (114 : Int32), .int (97 : Int32), .int (108 : Int32)]) (fr' := (118, [some (.int x0)], [], 0, 0)) rfl (T_Mo_spelled (by omega) hc ?_)
    show sm_W sm_sh X (sm_C sm_sh X sm_P D) me_169 Q (118, [some (.int x0)], [.long r13], 0, 0) (I, J, sm_rf t d)
    cases h
    exact sm_W.ret (sm_C_mono D) rfl hQ
  refine sm_W.swS (c := (13 : Int32)) (by decide) h (fun h => ?_) (fun h => ?_)
  · refine sm_W.run (sm_C_mono D) 7 (G := True) (fr' := (126, [some (.int x0)], [.int (111 : Int32), .int (110 : Int32), .int (97 : Int32), .int (114 : Int32), .int (112 : Int32), .int (111 : Int32), .int (115 : Int32)], 0, 0)) (M' := (I, J, sm_rf t d)) rfl trivial ?_
    obtain ⟨r14, hc, h⟩ := sd_q1_go h
    refine sm_W.cal (sm_C_mono D) (y := 168) (as := [.int (115 : Int32), .int (111 : Int32), .int (112 : Int32), .int (114 : Int32), .int (97 : Int32), .int (110 : Int32), .int (111 : Int32)]) (fr' := (127, [some (.int x0)], [], 0, 0)) rfl (T_Mo_spelled (by omega) hc ?_)
    show sm_W sm_sh X (sm_C sm_sh X sm_P D) me_169 Q (127, [some (.int x0)], [.long r14], 0, 0) (I, J, sm_rf t d)
    cases h
    exact sm_W.ret (sm_C_mono D) rfl hQ
  refine sm_W.swS (c := (14 : Int32)) (by decide) h (fun h => ?_) (fun h => ?_)
  · refine sm_W.run (sm_C_mono D) 7 (G := True) (fr' := (135, [some (.int x0)], [.int (0 : Int32), .int (0 : Int32), .int (0 : Int32), .int (111 : Int32), .int (116 : Int32), .int (108 : Int32), .int (97 : Int32)], 0, 0)) (M' := (I, J, sm_rf t d)) rfl trivial ?_
    obtain ⟨r15, hc, h⟩ := sd_q1_go h
    refine sm_W.cal (sm_C_mono D) (y := 168) (as := [.int (97 : Int32), .int (108 : Int32), .int (116 : Int32), .int (111 : Int32), .int (0 : Int32), .int (0 : Int32), .int (0 : Int32)]) (fr' := (136, [some (.int x0)], [], 0, 0)) rfl (T_Mo_spelled (by omega) hc ?_)
    show sm_W sm_sh X (sm_C sm_sh X sm_P D) me_169 Q (136, [some (.int x0)], [.long r15], 0, 0) (I, J, sm_rf t d)
    cases h
    exact sm_W.ret (sm_C_mono D) rfl hQ
  refine sm_W.swS (c := (15 : Int32)) (by decide) h (fun h => ?_) (fun h => ?_)
  · refine sm_W.run (sm_C_mono D) 7 (G := True) (fr' := (144, [some (.int x0)], [.int (0 : Int32), .int (0 : Int32), .int (114 : Int32), .int (111 : Int32), .int (110 : Int32), .int (101 : Int32), .int (116 : Int32)], 0, 0)) (M' := (I, J, sm_rf t d)) rfl trivial ?_
    obtain ⟨r16, hc, h⟩ := sd_q1_go h
    refine sm_W.cal (sm_C_mono D) (y := 168) (as := [.int (116 : Int32), .int (101 : Int32), .int (110 : Int32), .int (111 : Int32), .int (114 : Int32), .int (0 : Int32), .int (0 : Int32)]) (fr' := (145, [some (.int x0)], [], 0, 0)) rfl (T_Mo_spelled (by omega) hc ?_)
    show sm_W sm_sh X (sm_C sm_sh X sm_P D) me_169 Q (145, [some (.int x0)], [.long r16], 0, 0) (I, J, sm_rf t d)
    cases h
    exact sm_W.ret (sm_C_mono D) rfl hQ
  refine sm_W.swS (c := (16 : Int32)) (by decide) h (fun h => ?_) (fun h => ?_)
  · refine sm_W.run (sm_C_mono D) 7 (G := True) (fr' := (153, [some (.int x0)], [.int (0 : Int32), .int (0 : Int32), .int (0 : Int32), .int (115 : Int32), .int (115 : Int32), .int (97 : Int32), .int (98 : Int32)], 0, 0)) (M' := (I, J, sm_rf t d)) rfl trivial ?_
    obtain ⟨r17, hc, h⟩ := sd_q1_go h
    refine sm_W.cal (sm_C_mono D) (y := 168) (as := [.int (98 : Int32), .int (97 : Int32), .int (115 : Int32), .int (115 : Int32), .int (0 : Int32), .int (0 : Int32), .int (0 : Int32)]) (fr' := (154, [some (.int x0)], [], 0, 0)) rfl (T_Mo_spelled (by omega) hc ?_)
    show sm_W sm_sh X (sm_C sm_sh X sm_P D) me_169 Q (154, [some (.int x0)], [.long r17], 0, 0) (I, J, sm_rf t d)
    cases h
    exact sm_W.ret (sm_C_mono D) rfl hQ
  refine sm_W.swS (c := (17 : Int32)) (by decide) h (fun h => ?_) (fun h => ?_)
  · refine sm_W.run (sm_C_mono D) 7 (G := True) (fr' := (162, [some (.int x0)], [.int (0 : Int32), .int (0 : Int32), .int (101 : Int32), .int (99 : Int32), .int (101 : Int32), .int (105 : Int32), .int (112 : Int32)], 0, 0)) (M' := (I, J, sm_rf t d)) rfl trivial ?_
    obtain ⟨r18, hc, h⟩ := sd_q1_go h
    refine sm_W.cal (sm_C_mono D) (y := 168) (as := [.int (112 : Int32), .int (105 : Int32), .int (101 : Int32), .int (99 : Int32), .int (101 : Int32), .int (0 : Int32), .int (0 : Int32)]) (fr' := (163, [some (.int x0)], [], 0, 0)) rfl (T_Mo_spelled (by omega) hc ?_)
    show sm_W sm_sh X (sm_C sm_sh X sm_P D) me_169 Q (163, [some (.int x0)], [.long r18], 0, 0) (I, J, sm_rf t d)
    cases h
    exact sm_W.ret (sm_C_mono D) rfl hQ
  refine sm_W.swS (c := (18 : Int32)) (by decide) h (fun h => ?_) (fun h => ?_)
  · refine sm_W.run (sm_C_mono D) 7 (G := True) (fr' := (171, [some (.int x0)], [.int (0 : Int32), .int (0 : Int32), .int (121 : Int32), .int (114 : Int32), .int (101 : Int32), .int (118 : Int32), .int (101 : Int32)], 0, 0)) (M' := (I, J, sm_rf t d)) rfl trivial ?_
    obtain ⟨r19, hc, h⟩ := sd_q1_go h
    refine sm_W.cal (sm_C_mono D) (y := 168) (as := [.int (101 : Int32), .int (118 : Int32), .int (101 : Int32), .int (114 : Int32), .int (121 : Int32), .int (0 : Int32), .int (0 : Int32)]) (fr' := (172, [some (.int x0)], [], 0, 0)) rfl (T_Mo_spelled (by omega) hc ?_)
    show sm_W sm_sh X (sm_C sm_sh X sm_P D) me_169 Q (172, [some (.int x0)], [.long r19], 0, 0) (I, J, sm_rf t d)
    cases h
    exact sm_W.ret (sm_C_mono D) rfl hQ
  refine sm_W.swS (c := (19 : Int32)) (by decide) h (fun h => ?_) (fun h => ?_)
  · refine sm_W.run (sm_C_mono D) 7 (G := True) (fr' := (180, [some (.int x0)], [.int (0 : Int32), .int (0 : Int32), .int (101 : Int32), .int (99 : Int32), .int (117 : Int32), .int (114 : Int32), .int (116 : Int32)], 0, 0)) (M' := (I, J, sm_rf t d)) rfl trivial ?_
    obtain ⟨r20, hc, h⟩ := sd_q1_go h
    refine sm_W.cal (sm_C_mono D) (y := 168) (as := [.int (116 : Int32), .int (114 : Int32), .int (117 : Int32), .int (99 : Int32), .int (101 : Int32), .int (0 : Int32), .int (0 : Int32)]) (fr' := (181, [some (.int x0)], [], 0, 0)) rfl (T_Mo_spelled (by omega) hc ?_)
    show sm_W sm_sh X (sm_C sm_sh X sm_P D) me_169 Q (181, [some (.int x0)], [.long r20], 0, 0) (I, J, sm_rf t d)
    cases h
    exact sm_W.ret (sm_C_mono D) rfl hQ
  refine sm_W.swS (c := (20 : Int32)) (by decide) h (fun h => ?_) (fun h => ?_)
  · refine sm_W.run (sm_C_mono D) 7 (G := True) (fr' := (189, [some (.int x0)], [.int (0 : Int32), .int (0 : Int32), .int (0 : Int32), .int (0 : Int32), .int (109 : Int32), .int (105 : Int32), .int (97 : Int32)], 0, 0)) (M' := (I, J, sm_rf t d)) rfl trivial ?_
    obtain ⟨r21, hc, h⟩ := sd_q1_go h
    refine sm_W.cal (sm_C_mono D) (y := 168) (as := [.int (97 : Int32), .int (105 : Int32), .int (109 : Int32), .int (0 : Int32), .int (0 : Int32), .int (0 : Int32), .int (0 : Int32)]) (fr' := (190, [some (.int x0)], [], 0, 0)) rfl (T_Mo_spelled (by omega) hc ?_)
    show sm_W sm_sh X (sm_C sm_sh X sm_P D) me_169 Q (190, [some (.int x0)], [.long r21], 0, 0) (I, J, sm_rf t d)
    cases h
    exact sm_W.ret (sm_C_mono D) rfl hQ
  refine sm_W.swS (c := (21 : Int32)) (by decide) h (fun h => ?_) (fun h => ?_)
  · refine sm_W.run (sm_C_mono D) 7 (G := True) (fr' := (198, [some (.int x0)], [.int (0 : Int32), .int (0 : Int32), .int (0 : Int32), .int (0 : Int32), .int (100 : Int32), .int (110 : Int32), .int (97 : Int32)], 0, 0)) (M' := (I, J, sm_rf t d)) rfl trivial ?_
    obtain ⟨r22, hc, h⟩ := sd_q1_go h
    refine sm_W.cal (sm_C_mono D) (y := 168) (as := [.int (97 : Int32), .int (110 : Int32), .int (100 : Int32), .int (0 : Int32), .int (0 : Int32), .int (0 : Int32), .int (0 : Int32)]) (fr' := (199, [some (.int x0)], [], 0, 0)) rfl (T_Mo_spelled (by omega) hc ?_)
    show sm_W sm_sh X (sm_C sm_sh X sm_P D) me_169 Q (199, [some (.int x0)], [.long r22], 0, 0) (I, J, sm_rf t d)
    cases h
    exact sm_W.ret (sm_C_mono D) rfl hQ
  refine sm_W.swS (c := (22 : Int32)) (by decide) h (fun h => ?_) (fun h => ?_)
  · refine sm_W.run (sm_C_mono D) 7 (G := True) (fr' := (207, [some (.int x0)], [.int (0 : Int32), .int (0 : Int32), .int (0 : Int32), .int (0 : Int32), .int (0 : Int32), .int (114 : Int32), .int (111 : Int32)], 0, 0)) (M' := (I, J, sm_rf t d)) rfl trivial ?_
    obtain ⟨r23, hc, h⟩ := sd_q1_go h
    refine sm_W.cal (sm_C_mono D) (y := 168) (as := [.int (111 : Int32), .int (114 : Int32), .int (0 : Int32), .int (0 : Int32), .int (0 : Int32), .int (0 : Int32), .int (0 : Int32)]) (fr' := (208, [some (.int x0)], [], 0, 0)) rfl (T_Mo_spelled (by omega) hc ?_)
    show sm_W sm_sh X (sm_C sm_sh X sm_P D) me_169 Q (208, [some (.int x0)], [.long r23], 0, 0) (I, J, sm_rf t d)
    cases h
    exact sm_W.ret (sm_C_mono D) rfl hQ
  refine sm_W.run (sm_C_mono D) 7 (G := True) (fr' := (216, [some (.int x0)], [.int (0 : Int32), .int (0 : Int32), .int (0 : Int32), .int (0 : Int32), .int (116 : Int32), .int (111 : Int32), .int (110 : Int32)], 0, 0)) (M' := (I, J, sm_rf t d)) rfl trivial ?_
  obtain ⟨r24, hc, h⟩ := sd_q1_go h
  refine sm_W.cal (sm_C_mono D) (y := 168) (as := [.int (110 : Int32), .int (111 : Int32), .int (116 : Int32), .int (0 : Int32), .int (0 : Int32), .int (0 : Int32), .int (0 : Int32)]) (fr' := (217, [some (.int x0)], [], 0, 0)) rfl (T_Mo_spelled (by omega) hc ?_)
  show sm_W sm_sh X (sm_C sm_sh X sm_P D) me_169 Q (217, [some (.int x0)], [.long r24], 0, 0) (I, J, sm_rf t d)
  cases h
  exact sm_W.ret (sm_C_mono D) rfl hQ
theorem T_Mo_letters {X : Nat × (Nat → Int32)} {t d D : Nat} {Q : sm_Q} {I : sm_MI} {J : sm_MJ} {x0 : Int32} {rz : Int64}
    (hD : 2 ≤ D) (h : F_Mo_letters x0 = some (rz)) (hQ : Q (.inl (some (.long rz))) (I, J, sm_rf t d)) : sm_C sm_sh X sm_P D 169 [.int x0] (I, J, sm_rf t d) Q := by
  cases D with
  | zero => omega
  | succ D => exact sm_C.of (me := me_169) (L := [some (.int x0)]) rfl rfl rfl (sm_W.forget (L' := [some (.int x0)]) ⟨rfl, trivial⟩ (G_Mo_letters (by omega) h hQ))
-- 170 Mo_knownWord
noncomputable def F_Mo_knownWord_12B (k12 : Int32 → Option (Int32)) (x1 : Int32) (I : sm_MI) (J : sm_MJ) : Option (Int32) :=
  if (24 : Int32) ≤ x1 then
    some ((-1 : Int32))
  else
    sd_q1 (F_Mo_letters x1) fun r1 =>
    if ¬ (lg_cmp r1 (J 61 26)) = 0 then
      k12 (x1 + (1 : Int32))
    else
      some (x1)
noncomputable def F_Mo_knownWord_12 (I : sm_MI) (J : sm_MJ) (n : Nat) : Int32 → Option (Int32) :=
  sd_fix (fun k x1 => F_Mo_knownWord_12B k x1 I J) (fun _ => none) n
noncomputable def F_Mo_knownWord (I : sm_MI) (J : sm_MJ) : Option (Int32) :=
  if ¬ (I 61 21) = (1 : Int32) then
    some ((-1 : Int32))
  else
    if (I 61 23) ≤ (7 : Int32) then
      F_Mo_knownWord_12 I J sd_fu (0 : Int32)
    else
      some ((-1 : Int32))
theorem G_Mo_knownWord_12B {X : Nat × (Nat → Int32)} {t d D : Nat} {Q : sm_Q} {I : sm_MI} {J : sm_MJ} {k12 : Int32 → Option (Int32)} {x1 : Int32} {rz : Int32}
    (hD : 2 ≤ D) (h : F_Mo_knownWord_12B k12 x1 I J = some (rz)) (hQ : Q (.inl (some (.int rz))) (I, J, sm_rf t d)) (hk12 : ∀ (x1 : Int32), k12 x1 = some (rz) → sm_W sm_sh X (sm_C sm_sh X sm_P D) me_170 Q (12, [some (.ref 61), some (.int x1)], [], 0, 0) (I, J, sm_rf t d)) : sm_W sm_sh X (sm_C sm_sh X sm_P D) me_170 Q (12, [some (.ref 61), some (.int x1)], [], 0, 0) (I, J, sm_rf t d) := by
  unfold F_Mo_knownWord_12B at h
  refine sm_W.run (sm_C_mono D) 3 (G := True) (fr' := (if decide ((24 : Int32) ≤ x1) = true then 25 else 15, [some (.ref 61), some (.int x1)], [], 0, 0)) (M' := (I, J, sm_rf t d)) rfl trivial (sm_W.iteD h (fun hc h => ?_) (fun hc h => ?_))
  · refine sm_W.run (sm_C_mono D) 1 (G := True) (fr' := (26, [some (.ref 61), some (.int x1)], [.int (-1 : Int32)], 0, 0)) (M' := (I, J, sm_rf t d)) rfl trivial ?_
    cases h
    exact sm_W.ret (sm_C_mono D) rfl hQ
  · refine sm_W.run (sm_C_mono D) 1 (G := True) (fr' := (16, [some (.ref 61), some (.int x1)], [.int x1], 0, 0)) (M' := (I, J, sm_rf t d)) rfl trivial ?_
    obtain ⟨r1, hc, h⟩ := sd_q1_go h
    refine sm_W.cal (sm_C_mono D) (y := 169) (as := [.int x1]) (fr' := (17, [some (.ref 61), some (.int x1)], [], 0, 0)) rfl (T_Mo_letters (by omega) hc ?_)
    show sm_W sm_sh X (sm_C sm_sh X sm_P D) me_170 Q (17, [some (.ref 61), some (.int x1)], [.long r1], 0, 0) (I, J, sm_rf t d)
    refine sm_W.run (sm_C_mono D) 4 (G := True) (fr' := (if decide (¬ (lg_cmp r1 (J 61 26)) = 0) = true then 23 else 21, [some (.ref 61), some (.int x1)], [], 0, 0)) (M' := (I, J, sm_rf t d)) rfl trivial (sm_W.iteD h (fun hc h => ?_) (fun hc h => ?_))
    · refine sm_W.run (sm_C_mono D) 2 (G := True) (fr' := (12, [some (.ref 61), some (.int (x1 + (1 : Int32)))], [], 0, 0)) (M' := (I, J, sm_rf t d)) rfl trivial ?_
      exact (hk12 _ h)
    · refine sm_W.run (sm_C_mono D) 1 (G := True) (fr' := (22, [some (.ref 61), some (.int x1)], [.int x1], 0, 0)) (M' := (I, J, sm_rf t d)) rfl trivial ?_
      cases h
      exact sm_W.ret (sm_C_mono D) rfl hQ
theorem G_Mo_knownWord_12 {X : Nat × (Nat → Int32)} {t d D : Nat} {Q : sm_Q} {I : sm_MI} {J : sm_MJ} {rz : Int32}
    (hD : 2 ≤ D) (hQ : Q (.inl (some (.int rz))) (I, J, sm_rf t d))  : ∀ (n : Nat) (x1 : Int32), F_Mo_knownWord_12 I J n x1 = some (rz) → sm_W sm_sh X (sm_C sm_sh X sm_P D) me_170 Q (12, [some (.ref 61), some (.int x1)], [], 0, 0) (I, J, sm_rf t d) := by
  intro n
  induction n with
  | zero => intro x1 h; cases (show (none : Option (Int32)) = some (rz) from h)
  | succ n ih => intro x1 h; exact G_Mo_knownWord_12B hD (show F_Mo_knownWord_12B (F_Mo_knownWord_12 I J n) x1 I J = some (rz) from h) hQ  ih
theorem G_Mo_knownWord {X : Nat × (Nat → Int32)} {t d D : Nat} {Q : sm_Q} {I : sm_MI} {J : sm_MJ} {rz : Int32}
    (hD : 2 ≤ D) (h : F_Mo_knownWord I J = some (rz)) (hQ : Q (.inl (some (.int rz))) (I, J, sm_rf t d))  : sm_W sm_sh X (sm_C sm_sh X sm_P D) me_170 Q (0, [some (.ref 61), none], [], 0, 0) (I, J, sm_rf t d) := by
  unfold F_Mo_knownWord at h
  refine sm_W.run (sm_C_mono D) 4 (G := True) (fr' := (if decide (¬ (I 61 21) = (1 : Int32)) = true then 8 else 4, [some (.ref 61), none], [], 0, 0)) (M' := (I, J, sm_rf t d)) rfl trivial (sm_W.iteD h (fun hc h => ?_) (fun hc h => ?_))
  · refine sm_W.run (sm_C_mono D) 1 (G := True) (fr' := (9, [some (.ref 61), none], [.int (-1 : Int32)], 0, 0)) (M' := (I, J, sm_rf t d)) rfl trivial ?_
    cases h
    exact sm_W.ret (sm_C_mono D) rfl hQ
  · refine sm_W.run (sm_C_mono D) 4 (G := True) (fr' := (if decide ((I 61 23) ≤ (7 : Int32)) = true then 10 else 8, [some (.ref 61), none], [], 0, 0)) (M' := (I, J, sm_rf t d)) rfl trivial (sm_W.iteD h (fun hc h => ?_) (fun hc h => ?_))
    · refine sm_W.run (sm_C_mono D) 2 (G := True) (fr' := (12, [some (.ref 61), some (.int (0 : Int32))], [], 0, 0)) (M' := (I, J, sm_rf t d)) rfl trivial ?_
      exact (G_Mo_knownWord_12 hD hQ sd_fu _ h)
    · refine sm_W.run (sm_C_mono D) 1 (G := True) (fr' := (9, [some (.ref 61), none], [.int (-1 : Int32)], 0, 0)) (M' := (I, J, sm_rf t d)) rfl trivial ?_
      cases h
      exact sm_W.ret (sm_C_mono D) rfl hQ
theorem T_Mo_knownWord {X : Nat × (Nat → Int32)} {t d D : Nat} {Q : sm_Q} {I : sm_MI} {J : sm_MJ} {rz : Int32}
    (hD : 3 ≤ D) (h : F_Mo_knownWord I J = some (rz)) (hQ : Q (.inl (some (.int rz))) (I, J, sm_rf t d)) : sm_C sm_sh X sm_P D 170 [.ref 61] (I, J, sm_rf t d) Q := by
  cases D with
  | zero => omega
  | succ D => exact sm_C.of (me := me_170) (L := [some (.ref 61), none]) rfl rfl rfl (sm_W.forget (L' := [some (.ref 61), none]) ⟨rfl, trivial⟩ (G_Mo_knownWord (by omega) h hQ))
-- 171 Mo_wrong
noncomputable def F_Mo_wrong (x1 : Int32) (I : sm_MI) : Option (sm_MI) :=
  if (I 61 16) = 0 then
    sd_lt (sd_up I 61 16 x1) fun I1 =>
    sd_lt (sd_up I1 61 17 (I1 61 22)) fun I2 =>
    some (I2)
  else
    some (I)
theorem G_Mo_wrong {X : Nat × (Nat → Int32)} {t d D : Nat} {Q : sm_Q} {I : sm_MI} {J : sm_MJ} {x1 : Int32} {Iz : sm_MI}
    (hD : 0 ≤ D) (h : F_Mo_wrong x1 I = some (Iz)) (hQ : Q (.inl none) (Iz, J, sm_rf t d))  : sm_W sm_sh X (sm_C sm_sh X sm_P D) me_171 Q (0, [some (.ref 61), some (.int x1)], [], 0, 0) (I, J, sm_rf t d) := by
  unfold F_Mo_wrong at h
  refine sm_W.run (sm_C_mono D) 3 (G := True) (fr' := (if decide ((I 61 16) = 0) = true then 4 else 3, [some (.ref 61), some (.int x1)], [], 0, 0)) (M' := (I, J, sm_rf t d)) rfl trivial (sm_W.iteD h (fun hc h => ?_) (fun hc h => ?_))
  · refine sm_W.runL (sm_C_mono D) 3 (G := True) (e := (sd_up I 61 16 x1)) (fr' := fun _ => (7, [some (.ref 61), some (.int x1)], [], 0, 0)) (M' := fun I1 => (I1, J, sm_rf t d)) rfl h trivial (fun I1 h => ?_)
    refine sm_W.runL (sm_C_mono D) 4 (G := True) (e := (sd_up I1 61 17 (I1 61 22))) (fr' := fun _ => (11, [some (.ref 61), some (.int x1)], [], 0, 0)) (M' := fun I2 => (I2, J, sm_rf t d)) rfl h trivial (fun I2 h => ?_)
    cases h
    exact sm_W.ret (sm_C_mono D) rfl hQ
  · cases h
    exact sm_W.ret (sm_C_mono D) rfl hQ
theorem T_Mo_wrong {X : Nat × (Nat → Int32)} {t d D : Nat} {Q : sm_Q} {I : sm_MI} {J : sm_MJ} {x1 : Int32} {Iz : sm_MI}
    (hD : 1 ≤ D) (h : F_Mo_wrong x1 I = some (Iz)) (hQ : Q (.inl none) (Iz, J, sm_rf t d)) : sm_C sm_sh X sm_P D 171 [.ref 61, .int x1] (I, J, sm_rf t d) Q := by
  cases D with
  | zero => omega
  | succ D => exact sm_C.of (me := me_171) (L := [some (.ref 61), some (.int x1)]) rfl rfl rfl (sm_W.forget (L' := [some (.ref 61), some (.int x1)]) ⟨rfl, ⟨rfl, trivial⟩⟩ (G_Mo_wrong (by omega) h hQ))
-- 172 Mo_isGood
noncomputable def F_Mo_isGood (I : sm_MI) : Option (Int32) :=
  if ¬ (I 61 16) = 0 then
    some ((0 : Int32))
  else
    some ((1 : Int32))
theorem G_Mo_isGood {X : Nat × (Nat → Int32)} {t d D : Nat} {Q : sm_Q} {I : sm_MI} {J : sm_MJ} {rz : Int32}
    (hD : 0 ≤ D) (h : F_Mo_isGood I = some (rz)) (hQ : Q (.inl (some (.int rz))) (I, J, sm_rf t d))  : sm_W sm_sh X (sm_C sm_sh X sm_P D) me_172 Q (0, [some (.ref 61)], [], 0, 0) (I, J, sm_rf t d) := by
  unfold F_Mo_isGood at h
  refine sm_W.run (sm_C_mono D) 3 (G := True) (fr' := (if decide (¬ (I 61 16) = 0) = true then 5 else 3, [some (.ref 61)], [], 0, 0)) (M' := (I, J, sm_rf t d)) rfl trivial (sm_W.iteD h (fun hc h => ?_) (fun hc h => ?_))
  · refine sm_W.run (sm_C_mono D) 1 (G := True) (fr' := (6, [some (.ref 61)], [.int (0 : Int32)], 0, 0)) (M' := (I, J, sm_rf t d)) rfl trivial ?_
    cases h
    exact sm_W.ret (sm_C_mono D) rfl hQ
  · refine sm_W.run (sm_C_mono D) 2 (G := True) (fr' := (6, [some (.ref 61)], [.int (1 : Int32)], 0, 0)) (M' := (I, J, sm_rf t d)) rfl trivial ?_
    cases h
    exact sm_W.ret (sm_C_mono D) rfl hQ
theorem T_Mo_isGood {X : Nat × (Nat → Int32)} {t d D : Nat} {Q : sm_Q} {I : sm_MI} {J : sm_MJ} {rz : Int32}
    (hD : 1 ≤ D) (h : F_Mo_isGood I = some (rz)) (hQ : Q (.inl (some (.int rz))) (I, J, sm_rf t d)) : sm_C sm_sh X sm_P D 172 [.ref 61] (I, J, sm_rf t d) Q := by
  cases D with
  | zero => omega
  | succ D => exact sm_C.of (me := me_172) (L := [some (.ref 61)]) rfl rfl rfl (sm_W.forget (L' := [some (.ref 61)]) ⟨rfl, trivial⟩ (G_Mo_isGood (by omega) h hQ))
-- 173 Mo_isSign
noncomputable def F_Mo_isSign (x1 : Int32) (I : sm_MI) : Option (Int32) :=
  if ¬ (I 61 21) = (3 : Int32) then
    some ((0 : Int32))
  else
    if ¬ (I 61 25) = x1 then
      some ((0 : Int32))
    else
      some ((1 : Int32))
theorem G_Mo_isSign {X : Nat × (Nat → Int32)} {t d D : Nat} {Q : sm_Q} {I : sm_MI} {J : sm_MJ} {x1 : Int32} {rz : Int32}
    (hD : 0 ≤ D) (h : F_Mo_isSign x1 I = some (rz)) (hQ : Q (.inl (some (.int rz))) (I, J, sm_rf t d))  : sm_W sm_sh X (sm_C sm_sh X sm_P D) me_173 Q (0, [some (.ref 61), some (.int x1)], [], 0, 0) (I, J, sm_rf t d) := by
  unfold F_Mo_isSign at h
  refine sm_W.run (sm_C_mono D) 4 (G := True) (fr' := (if decide (¬ (I 61 21) = (3 : Int32)) = true then 10 else 4, [some (.ref 61), some (.int x1)], [], 0, 0)) (M' := (I, J, sm_rf t d)) rfl trivial (sm_W.iteD h (fun hc h => ?_) (fun hc h => ?_))
  · refine sm_W.run (sm_C_mono D) 1 (G := True) (fr' := (11, [some (.ref 61), some (.int x1)], [.int (0 : Int32)], 0, 0)) (M' := (I, J, sm_rf t d)) rfl trivial ?_
    cases h
    exact sm_W.ret (sm_C_mono D) rfl hQ
  · refine sm_W.run (sm_C_mono D) 4 (G := True) (fr' := (if decide (¬ (I 61 25) = x1) = true then 10 else 8, [some (.ref 61), some (.int x1)], [], 0, 0)) (M' := (I, J, sm_rf t d)) rfl trivial (sm_W.iteD h (fun hc h => ?_) (fun hc h => ?_))
    · refine sm_W.run (sm_C_mono D) 1 (G := True) (fr' := (11, [some (.ref 61), some (.int x1)], [.int (0 : Int32)], 0, 0)) (M' := (I, J, sm_rf t d)) rfl trivial ?_
      cases h
      exact sm_W.ret (sm_C_mono D) rfl hQ
    · refine sm_W.run (sm_C_mono D) 2 (G := True) (fr' := (11, [some (.ref 61), some (.int x1)], [.int (1 : Int32)], 0, 0)) (M' := (I, J, sm_rf t d)) rfl trivial ?_
      cases h
      exact sm_W.ret (sm_C_mono D) rfl hQ
theorem T_Mo_isSign {X : Nat × (Nat → Int32)} {t d D : Nat} {Q : sm_Q} {I : sm_MI} {J : sm_MJ} {x1 : Int32} {rz : Int32}
    (hD : 1 ≤ D) (h : F_Mo_isSign x1 I = some (rz)) (hQ : Q (.inl (some (.int rz))) (I, J, sm_rf t d)) : sm_C sm_sh X sm_P D 173 [.ref 61, .int x1] (I, J, sm_rf t d) Q := by
  cases D with
  | zero => omega
  | succ D => exact sm_C.of (me := me_173) (L := [some (.ref 61), some (.int x1)]) rfl rfl rfl (sm_W.forget (L' := [some (.ref 61), some (.int x1)]) ⟨rfl, ⟨rfl, trivial⟩⟩ (G_Mo_isSign (by omega) h hQ))
-- 174 Mo_need
noncomputable def F_Mo_need (x1 : Int32) (I : sm_MI) (J : sm_MJ) : Option (sm_MI × sm_MJ) :=
  sd_q1 (F_Mo_isGood I) fun r1 =>
  if ¬ r1 = 0 then
    if x1 = 0 then
      sd_q1 (F_Mo_wrong (1 : Int32) I) fun I2 =>
      some (I2, J)
    else
      sd_q2 (F_Mo_goes I J) fun I3 J4 =>
      some (I3, J4)
  else
    some (I, J)
theorem G_Mo_need {X : Nat × (Nat → Int32)} {t d D : Nat} {Q : sm_Q} {I : sm_MI} {J : sm_MJ} {x1 : Int32} {Iz : sm_MI} {Jz : sm_MJ}
    (hD : 2 ≤ D) (h : F_Mo_need x1 I J = some (Iz, Jz)) (hQ : Q (.inl none) (Iz, Jz, sm_rf t d))  : sm_W sm_sh X (sm_C sm_sh X sm_P D) me_174 Q (0, [some (.ref 61), some (.int x1)], [], 0, 0) (I, J, sm_rf t d) := by
  unfold F_Mo_need at h
  refine sm_W.run (sm_C_mono D) 1 (G := True) (fr' := (1, [some (.ref 61), some (.int x1)], [.ref 61], 0, 0)) (M' := (I, J, sm_rf t d)) rfl trivial ?_
  obtain ⟨r1, hc, h⟩ := sd_q1_go h
  refine sm_W.cal (sm_C_mono D) (y := 172) (as := [.ref 61]) (fr' := (2, [some (.ref 61), some (.int x1)], [], 0, 0)) rfl (T_Mo_isGood (by omega) hc ?_)
  show sm_W sm_sh X (sm_C sm_sh X sm_P D) me_174 Q (2, [some (.ref 61), some (.int x1)], [.int r1], 0, 0) (I, J, sm_rf t d)
  refine sm_W.run (sm_C_mono D) 1 (G := True) (fr' := (if decide (¬ r1 = 0) = true then 4 else 3, [some (.ref 61), some (.int x1)], [], 0, 0)) (M' := (I, J, sm_rf t d)) rfl trivial (sm_W.iteD h (fun hc h => ?_) (fun hc h => ?_))
  · refine sm_W.run (sm_C_mono D) 2 (G := True) (fr' := (if decide (x1 = 0) = true then 9 else 6, [some (.ref 61), some (.int x1)], [], 0, 0)) (M' := (I, J, sm_rf t d)) rfl trivial (sm_W.iteD h (fun hc h => ?_) (fun hc h => ?_))
    · refine sm_W.run (sm_C_mono D) 2 (G := True) (fr' := (11, [some (.ref 61), some (.int x1)], [.int (1 : Int32), .ref 61], 0, 0)) (M' := (I, J, sm_rf t d)) rfl trivial ?_
      obtain ⟨I2, hc, h⟩ := sd_q1_go h
      refine sm_W.cal (sm_C_mono D) (y := 171) (as := [.ref 61, .int (1 : Int32)]) (fr' := (12, [some (.ref 61), some (.int x1)], [], 0, 0)) rfl (T_Mo_wrong (by omega) hc ?_)
      show sm_W sm_sh X (sm_C sm_sh X sm_P D) me_174 Q (12, [some (.ref 61), some (.int x1)], [], 0, 0) (I2, J, sm_rf t d)
      cases h
      exact sm_W.ret (sm_C_mono D) rfl hQ
    · refine sm_W.run (sm_C_mono D) 1 (G := True) (fr' := (7, [some (.ref 61), some (.int x1)], [.ref 61], 0, 0)) (M' := (I, J, sm_rf t d)) rfl trivial ?_
      obtain ⟨I3, J4, hc, h⟩ := sd_q2_go h
      refine sm_W.cal (sm_C_mono D) (y := 167) (as := [.ref 61]) (fr' := (8, [some (.ref 61), some (.int x1)], [], 0, 0)) rfl (T_Mo_goes (by omega) hc ?_)
      show sm_W sm_sh X (sm_C sm_sh X sm_P D) me_174 Q (8, [some (.ref 61), some (.int x1)], [], 0, 0) (I3, J4, sm_rf t d)
      refine sm_W.run (sm_C_mono D) 1 (G := True) (fr' := (12, [some (.ref 61), some (.int x1)], [], 0, 0)) (M' := (I3, J4, sm_rf t d)) rfl trivial ?_
      cases h
      exact sm_W.ret (sm_C_mono D) rfl hQ
  · cases h
    exact sm_W.ret (sm_C_mono D) rfl hQ
theorem T_Mo_need {X : Nat × (Nat → Int32)} {t d D : Nat} {Q : sm_Q} {I : sm_MI} {J : sm_MJ} {x1 : Int32} {Iz : sm_MI} {Jz : sm_MJ}
    (hD : 3 ≤ D) (h : F_Mo_need x1 I J = some (Iz, Jz)) (hQ : Q (.inl none) (Iz, Jz, sm_rf t d)) : sm_C sm_sh X sm_P D 174 [.ref 61, .int x1] (I, J, sm_rf t d) Q := by
  cases D with
  | zero => omega
  | succ D => exact sm_C.of (me := me_174) (L := [some (.ref 61), some (.int x1)]) rfl rfl rfl (sm_W.forget (L' := [some (.ref 61), some (.int x1)]) ⟨rfl, ⟨rfl, trivial⟩⟩ (G_Mo_need (by omega) h hQ))
-- 175 Mo_number
noncomputable def F_Mo_number_28 (I : sm_MI) (J : sm_MJ) : Option (Int32 × sm_MI × sm_MJ) :=
  sd_lt (I 61 24) fun a1 =>
  sd_q1 (F_Mo_isGood I) fun r2 =>
  if r2 = 0 then
    some (a1, I, J)
  else
    sd_q2 (F_Mo_goes I J) fun I3 J4 =>
    some (a1, I3, J4)
noncomputable def F_Mo_number_25 (I : sm_MI) (J : sm_MJ) : Option (Int32 × sm_MI × sm_MJ) :=
  sd_q1 (F_Mo_wrong (2 : Int32) I) fun I1 =>
  F_Mo_number_28 I1 J
noncomputable def F_Mo_number (x1 : Int32) (x2 : Int32) (I : sm_MI) (J : sm_MJ) : Option (Int32 × sm_MI × sm_MJ) :=
  sd_q1 (F_Mo_isGood I) fun r1 =>
  if ¬ r1 = 0 then
    if (I 61 21) = (2 : Int32) then
      if (4 : Int32) < (I 61 23) then
        F_Mo_number_25 I J
      else
        if (I 61 24) < x1 then
          F_Mo_number_25 I J
        else
          if (I 61 24) ≤ x2 then
            F_Mo_number_28 I J
          else
            F_Mo_number_25 I J
    else
      sd_q1 (F_Mo_wrong (1 : Int32) I) fun I2 =>
      F_Mo_number_28 I2 J
  else
    some ((0 : Int32), I, J)
theorem G_Mo_number_28 {X : Nat × (Nat → Int32)} {t d D : Nat} {Q : sm_Q} {I : sm_MI} {J : sm_MJ} {rz : Int32} {Iz : sm_MI} {Jz : sm_MJ}
    (hD : 2 ≤ D) (h : F_Mo_number_28 I J = some (rz, Iz, Jz)) (hQ : Q (.inl (some (.int rz))) (Iz, Jz, sm_rf t d))  : sm_W sm_sh X (sm_C sm_sh X sm_P D) me_175 Q (28, [some (.ref 61), none, none, none], [], 0, 0) (I, J, sm_rf t d) := by
  unfold F_Mo_number_28 at h
  refine sm_W.runL (sm_C_mono D) 3 (G := True) (e := (I 61 24)) (fr' := fun a1 => (31, [some (.ref 61), none, none, some (.int a1)], [], 0, 0)) (M' := fun _ => (I, J, sm_rf t d)) rfl h trivial (fun a1 h => ?_)
  refine sm_W.run (sm_C_mono D) 1 (G := True) (fr' := (32, [some (.ref 61), none, none, some (.int a1)], [.ref 61], 0, 0)) (M' := (I, J, sm_rf t d)) rfl trivial ?_
  obtain ⟨r2, hc, h⟩ := sd_q1_go h
  refine sm_W.cal (sm_C_mono D) (y := 172) (as := [.ref 61]) (fr' := (33, [some (.ref 61), none, none, some (.int a1)], [], 0, 0)) rfl (T_Mo_isGood (by omega) hc ?_)
  show sm_W sm_sh X (sm_C sm_sh X sm_P D) me_175 Q (33, [some (.ref 61), none, none, some (.int a1)], [.int r2], 0, 0) (I, J, sm_rf t d)
  refine sm_W.run (sm_C_mono D) 1 (G := True) (fr' := (if decide (r2 = 0) = true then 36 else 34, [some (.ref 61), none, none, some (.int a1)], [], 0, 0)) (M' := (I, J, sm_rf t d)) rfl trivial (sm_W.iteD h (fun hc h => ?_) (fun hc h => ?_))
  · refine sm_W.run (sm_C_mono D) 1 (G := True) (fr' := (37, [some (.ref 61), none, none, some (.int a1)], [.int a1], 0, 0)) (M' := (I, J, sm_rf t d)) rfl trivial ?_
    cases h
    exact sm_W.ret (sm_C_mono D) rfl hQ
  · refine sm_W.run (sm_C_mono D) 1 (G := True) (fr' := (35, [some (.ref 61), none, none, some (.int a1)], [.ref 61], 0, 0)) (M' := (I, J, sm_rf t d)) rfl trivial ?_
    obtain ⟨I3, J4, hc, h⟩ := sd_q2_go h
    refine sm_W.cal (sm_C_mono D) (y := 167) (as := [.ref 61]) (fr' := (36, [some (.ref 61), none, none, some (.int a1)], [], 0, 0)) rfl (T_Mo_goes (by omega) hc ?_)
    show sm_W sm_sh X (sm_C sm_sh X sm_P D) me_175 Q (36, [some (.ref 61), none, none, some (.int a1)], [], 0, 0) (I3, J4, sm_rf t d)
    refine sm_W.run (sm_C_mono D) 1 (G := True) (fr' := (37, [some (.ref 61), none, none, some (.int a1)], [.int a1], 0, 0)) (M' := (I3, J4, sm_rf t d)) rfl trivial ?_
    cases h
    exact sm_W.ret (sm_C_mono D) rfl hQ
theorem G_Mo_number_25 {X : Nat × (Nat → Int32)} {t d D : Nat} {Q : sm_Q} {I : sm_MI} {J : sm_MJ} {rz : Int32} {Iz : sm_MI} {Jz : sm_MJ}
    (hD : 2 ≤ D) (h : F_Mo_number_25 I J = some (rz, Iz, Jz)) (hQ : Q (.inl (some (.int rz))) (Iz, Jz, sm_rf t d))  : sm_W sm_sh X (sm_C sm_sh X sm_P D) me_175 Q (25, [some (.ref 61), none, none, none], [], 0, 0) (I, J, sm_rf t d) := by
  unfold F_Mo_number_25 at h
  refine sm_W.run (sm_C_mono D) 2 (G := True) (fr' := (27, [some (.ref 61), none, none, none], [.int (2 : Int32), .ref 61], 0, 0)) (M' := (I, J, sm_rf t d)) rfl trivial ?_
  obtain ⟨I1, hc, h⟩ := sd_q1_go h
  refine sm_W.cal (sm_C_mono D) (y := 171) (as := [.ref 61, .int (2 : Int32)]) (fr' := (28, [some (.ref 61), none, none, none], [], 0, 0)) rfl (T_Mo_wrong (by omega) hc ?_)
  show sm_W sm_sh X (sm_C sm_sh X sm_P D) me_175 Q (28, [some (.ref 61), none, none, none], [], 0, 0) (I1, J, sm_rf t d)
  exact (G_Mo_number_28 hD h hQ)
theorem G_Mo_number {X : Nat × (Nat → Int32)} {t d D : Nat} {Q : sm_Q} {I : sm_MI} {J : sm_MJ} {x1 : Int32} {x2 : Int32} {rz : Int32} {Iz : sm_MI} {Jz : sm_MJ}
    (hD : 2 ≤ D) (h : F_Mo_number x1 x2 I J = some (rz, Iz, Jz)) (hQ : Q (.inl (some (.int rz))) (Iz, Jz, sm_rf t d))  : sm_W sm_sh X (sm_C sm_sh X sm_P D) me_175 Q (0, [some (.ref 61), some (.int x1), some (.int x2), none], [], 0, 0) (I, J, sm_rf t d) := by
  unfold F_Mo_number at h
  refine sm_W.run (sm_C_mono D) 1 (G := True) (fr' := (1, [some (.ref 61), some (.int x1), some (.int x2), none], [.ref 61], 0, 0)) (M' := (I, J, sm_rf t d)) rfl trivial ?_
  obtain ⟨r1, hc, h⟩ := sd_q1_go h
  refine sm_W.cal (sm_C_mono D) (y := 172) (as := [.ref 61]) (fr' := (2, [some (.ref 61), some (.int x1), some (.int x2), none], [], 0, 0)) rfl (T_Mo_isGood (by omega) hc ?_)
  show sm_W sm_sh X (sm_C sm_sh X sm_P D) me_175 Q (2, [some (.ref 61), some (.int x1), some (.int x2), none], [.int r1], 0, 0) (I, J, sm_rf t d)
  refine sm_W.run (sm_C_mono D) 1 (G := True) (fr' := (if decide (¬ r1 = 0) = true then 5 else 3, [some (.ref 61), some (.int x1), some (.int x2), none], [], 0, 0)) (M' := (I, J, sm_rf t d)) rfl trivial (sm_W.iteD h (fun hc h => ?_) (fun hc h => ?_))
  · refine sm_W.run (sm_C_mono D) 4 (G := True) (fr' := (if decide ((I 61 21) = (2 : Int32)) = true then 13 else 9, [some (.ref 61), some (.int x1), some (.int x2), none], [], 0, 0)) (M' := (I, J, sm_rf t d)) rfl trivial (sm_W.iteD h (fun hc h => ?_) (fun hc h => ?_))
    · refine sm_W.run (sm_C_mono D) 4 (G := True) (fr' := (if decide ((4 : Int32) < (I 61 23)) = true then 25 else 17, [some (.ref 61), some (.int x1), some (.int x2), none], [], 0, 0)) (M' := (I, J, sm_rf t d)) rfl trivial (sm_W.iteD h (fun hc h => ?_) (fun hc h => ?_))
      · exact sm_W.forget (L' := [some (.ref 61), none, none, none]) ⟨rfl, trivial⟩ (G_Mo_number_25 hD h hQ)
      · refine sm_W.run (sm_C_mono D) 4 (G := True) (fr' := (if decide ((I 61 24) < x1) = true then 25 else 21, [some (.ref 61), some (.int x1), some (.int x2), none], [], 0, 0)) (M' := (I, J, sm_rf t d)) rfl trivial (sm_W.iteD h (fun hc h => ?_) (fun hc h => ?_))
        · exact sm_W.forget (L' := [some (.ref 61), none, none, none]) ⟨rfl, trivial⟩ (G_Mo_number_25 hD h hQ)
        · refine sm_W.run (sm_C_mono D) 4 (G := True) (fr' := (if decide ((I 61 24) ≤ x2) = true then 28 else 25, [some (.ref 61), some (.int x1), some (.int x2), none], [], 0, 0)) (M' := (I, J, sm_rf t d)) rfl trivial (sm_W.iteD h (fun hc h => ?_) (fun hc h => ?_))
          · exact sm_W.forget (L' := [some (.ref 61), none, none, none]) ⟨rfl, trivial⟩ (G_Mo_number_28 hD h hQ)
          · exact sm_W.forget (L' := [some (.ref 61), none, none, none]) ⟨rfl, trivial⟩ (G_Mo_number_25 hD h hQ)
    · refine sm_W.run (sm_C_mono D) 2 (G := True) (fr' := (11, [some (.ref 61), some (.int x1), some (.int x2), none], [.int (1 : Int32), .ref 61], 0, 0)) (M' := (I, J, sm_rf t d)) rfl trivial ?_
      obtain ⟨I2, hc, h⟩ := sd_q1_go h
      refine sm_W.cal (sm_C_mono D) (y := 171) (as := [.ref 61, .int (1 : Int32)]) (fr' := (12, [some (.ref 61), some (.int x1), some (.int x2), none], [], 0, 0)) rfl (T_Mo_wrong (by omega) hc ?_)
      show sm_W sm_sh X (sm_C sm_sh X sm_P D) me_175 Q (12, [some (.ref 61), some (.int x1), some (.int x2), none], [], 0, 0) (I2, J, sm_rf t d)
      refine sm_W.run (sm_C_mono D) 1 (G := True) (fr' := (28, [some (.ref 61), some (.int x1), some (.int x2), none], [], 0, 0)) (M' := (I2, J, sm_rf t d)) rfl trivial ?_
      exact sm_W.forget (L' := [some (.ref 61), none, none, none]) ⟨rfl, trivial⟩ (G_Mo_number_28 hD h hQ)
  · refine sm_W.run (sm_C_mono D) 1 (G := True) (fr' := (4, [some (.ref 61), some (.int x1), some (.int x2), none], [.int (0 : Int32)], 0, 0)) (M' := (I, J, sm_rf t d)) rfl trivial ?_
    cases h
    exact sm_W.ret (sm_C_mono D) rfl hQ
theorem T_Mo_number {X : Nat × (Nat → Int32)} {t d D : Nat} {Q : sm_Q} {I : sm_MI} {J : sm_MJ} {x1 : Int32} {x2 : Int32} {rz : Int32} {Iz : sm_MI} {Jz : sm_MJ}
    (hD : 3 ≤ D) (h : F_Mo_number x1 x2 I J = some (rz, Iz, Jz)) (hQ : Q (.inl (some (.int rz))) (Iz, Jz, sm_rf t d)) : sm_C sm_sh X sm_P D 175 [.ref 61, .int x1, .int x2] (I, J, sm_rf t d) Q := by
  cases D with
  | zero => omega
  | succ D => exact sm_C.of (me := me_175) (L := [some (.ref 61), some (.int x1), some (.int x2), none]) rfl rfl rfl (sm_W.forget (L' := [some (.ref 61), some (.int x1), some (.int x2), none]) ⟨rfl, ⟨rfl, ⟨rfl, trivial⟩⟩⟩ (G_Mo_number (by omega) h hQ))
-- 176 Mo_puts
noncomputable def F_Mo_puts (x1 : Int32) (I : sm_MI) : Option (sm_MI) :=
  sd_gu (sm_in (I 61 30) 2800 = true) <|
  sd_lt (sd_up I 83 (Int32.toNatClampNeg (I 61 30)) x1) fun I2 =>
  sd_lt (sd_up I2 61 30 ((I2 61 30) + (1 : Int32))) fun I3 =>
  some (I3)
theorem G_Mo_puts {X : Nat × (Nat → Int32)} {t d D : Nat} {Q : sm_Q} {I : sm_MI} {J : sm_MJ} {x1 : Int32} {Iz : sm_MI}
    (hD : 0 ≤ D) (h : F_Mo_puts x1 I = some (Iz)) (hQ : Q (.inl none) (Iz, J, sm_rf t d))  : sm_W sm_sh X (sm_C sm_sh X sm_P D) me_176 Q (0, [some (.ref 61), some (.int x1)], [], 0, 0) (I, J, sm_rf t d) := by
  unfold F_Mo_puts at h
  obtain ⟨g1, h⟩ := sd_gu_go h
  refine sm_W.runL (sm_C_mono D) 6 (G := sm_in (I 61 30) 2800 = true ∧ True) (e := (sd_up I 83 (Int32.toNatClampNeg (I 61 30)) x1)) (fr' := fun _ => (6, [some (.ref 61), some (.int x1)], [], 0, 0)) (M' := fun I2 => (I2, J, sm_rf t d)) rfl h ⟨g1, trivial⟩ (fun I2 h => ?_)
  refine sm_W.runL (sm_C_mono D) 6 (G := True) (e := (sd_up I2 61 30 ((I2 61 30) + (1 : Int32)))) (fr' := fun _ => (12, [some (.ref 61), some (.int x1)], [], 0, 0)) (M' := fun I3 => (I3, J, sm_rf t d)) rfl h trivial (fun I3 h => ?_)
  cases h
  exact sm_W.ret (sm_C_mono D) rfl hQ
theorem T_Mo_puts {X : Nat × (Nat → Int32)} {t d D : Nat} {Q : sm_Q} {I : sm_MI} {J : sm_MJ} {x1 : Int32} {Iz : sm_MI}
    (hD : 1 ≤ D) (h : F_Mo_puts x1 I = some (Iz)) (hQ : Q (.inl none) (Iz, J, sm_rf t d)) : sm_C sm_sh X sm_P D 176 [.ref 61, .int x1] (I, J, sm_rf t d) Q := by
  cases D with
  | zero => omega
  | succ D => exact sm_C.of (me := me_176) (L := [some (.ref 61), some (.int x1)]) rfl rfl rfl (sm_W.forget (L' := [some (.ref 61), some (.int x1)]) ⟨rfl, ⟨rfl, trivial⟩⟩ (G_Mo_puts (by omega) h hQ))
-- 177 Mo_isOpen
noncomputable def F_Mo_isOpen (x0 : Int32) : Option (Int32) :=
  if x0 < (14 : Int32) then
    some ((0 : Int32))
  else
    some ((1 : Int32))
theorem G_Mo_isOpen {X : Nat × (Nat → Int32)} {t d D : Nat} {Q : sm_Q} {I : sm_MI} {J : sm_MJ} {x0 : Int32} {rz : Int32}
    (hD : 0 ≤ D) (h : F_Mo_isOpen x0 = some (rz)) (hQ : Q (.inl (some (.int rz))) (I, J, sm_rf t d))  : sm_W sm_sh X (sm_C sm_sh X sm_P D) me_177 Q (0, [some (.int x0)], [], 0, 0) (I, J, sm_rf t d) := by
  unfold F_Mo_isOpen at h
  refine sm_W.run (sm_C_mono D) 3 (G := True) (fr' := (if decide (x0 < (14 : Int32)) = true then 5 else 3, [some (.int x0)], [], 0, 0)) (M' := (I, J, sm_rf t d)) rfl trivial (sm_W.iteD h (fun hc h => ?_) (fun hc h => ?_))
  · refine sm_W.run (sm_C_mono D) 1 (G := True) (fr' := (6, [some (.int x0)], [.int (0 : Int32)], 0, 0)) (M' := (I, J, sm_rf t d)) rfl trivial ?_
    cases h
    exact sm_W.ret (sm_C_mono D) rfl hQ
  · refine sm_W.run (sm_C_mono D) 2 (G := True) (fr' := (6, [some (.int x0)], [.int (1 : Int32)], 0, 0)) (M' := (I, J, sm_rf t d)) rfl trivial ?_
    cases h
    exact sm_W.ret (sm_C_mono D) rfl hQ
theorem T_Mo_isOpen {X : Nat × (Nat → Int32)} {t d D : Nat} {Q : sm_Q} {I : sm_MI} {J : sm_MJ} {x0 : Int32} {rz : Int32}
    (hD : 1 ≤ D) (h : F_Mo_isOpen x0 = some (rz)) (hQ : Q (.inl (some (.int rz))) (I, J, sm_rf t d)) : sm_C sm_sh X sm_P D 177 [.int x0] (I, J, sm_rf t d) Q := by
  cases D with
  | zero => omega
  | succ D => exact sm_C.of (me := me_177) (L := [some (.int x0)]) rfl rfl rfl (sm_W.forget (L' := [some (.int x0)]) ⟨rfl, trivial⟩ (G_Mo_isOpen (by omega) h hQ))
-- 178 Mo_strength
noncomputable def F_Mo_strength (x0 : Int32) : Option (Int32) :=
  if ¬ x0 = (5 : Int32) then
    if ¬ x0 = (4 : Int32) then
      if ¬ x0 = (3 : Int32) then
        if x0 = (6 : Int32) then
          some ((4 : Int32))
        else
          if ¬ x0 = (7 : Int32) then
            if x0 = (8 : Int32) then
              some ((5 : Int32))
            else
              if ¬ x0 = (9 : Int32) then
                some ((6 : Int32))
              else
                some ((5 : Int32))
          else
            some ((4 : Int32))
      else
        some ((3 : Int32))
    else
      some ((2 : Int32))
  else
    some ((1 : Int32))
theorem G_Mo_strength {X : Nat × (Nat → Int32)} {t d D : Nat} {Q : sm_Q} {I : sm_MI} {J : sm_MJ} {x0 : Int32} {rz : Int32}
    (hD : 0 ≤ D) (h : F_Mo_strength x0 = some (rz)) (hQ : Q (.inl (some (.int rz))) (I, J, sm_rf t d))  : sm_W sm_sh X (sm_C sm_sh X sm_P D) me_178 Q (0, [some (.int x0)], [], 0, 0) (I, J, sm_rf t d) := by
  unfold F_Mo_strength at h
  refine sm_W.run (sm_C_mono D) 3 (G := True) (fr' := (if decide (¬ x0 = (5 : Int32)) = true then 5 else 3, [some (.int x0)], [], 0, 0)) (M' := (I, J, sm_rf t d)) rfl trivial (sm_W.iteD h (fun hc h => ?_) (fun hc h => ?_))
  · refine sm_W.run (sm_C_mono D) 3 (G := True) (fr' := (if decide (¬ x0 = (4 : Int32)) = true then 10 else 8, [some (.int x0)], [], 0, 0)) (M' := (I, J, sm_rf t d)) rfl trivial (sm_W.iteD h (fun hc h => ?_) (fun hc h => ?_))
    · refine sm_W.run (sm_C_mono D) 3 (G := True) (fr' := (if decide (¬ x0 = (3 : Int32)) = true then 15 else 13, [some (.int x0)], [], 0, 0)) (M' := (I, J, sm_rf t d)) rfl trivial (sm_W.iteD h (fun hc h => ?_) (fun hc h => ?_))
      · refine sm_W.run (sm_C_mono D) 3 (G := True) (fr' := (if decide (x0 = (6 : Int32)) = true then 21 else 18, [some (.int x0)], [], 0, 0)) (M' := (I, J, sm_rf t d)) rfl trivial (sm_W.iteD h (fun hc h => ?_) (fun hc h => ?_))
        · refine sm_W.run (sm_C_mono D) 2 (G := True) (fr' := (32, [some (.int x0)], [.int (4 : Int32)], 0, 0)) (M' := (I, J, sm_rf t d)) rfl trivial ?_
          cases h
          exact sm_W.ret (sm_C_mono D) rfl hQ
        · refine sm_W.run (sm_C_mono D) 3 (G := True) (fr' := (if decide (¬ x0 = (7 : Int32)) = true then 23 else 21, [some (.int x0)], [], 0, 0)) (M' := (I, J, sm_rf t d)) rfl trivial (sm_W.iteD h (fun hc h => ?_) (fun hc h => ?_))
          · refine sm_W.run (sm_C_mono D) 3 (G := True) (fr' := (if decide (x0 = (8 : Int32)) = true then 29 else 26, [some (.int x0)], [], 0, 0)) (M' := (I, J, sm_rf t d)) rfl trivial (sm_W.iteD h (fun hc h => ?_) (fun hc h => ?_))
            · refine sm_W.run (sm_C_mono D) 2 (G := True) (fr' := (32, [some (.int x0)], [.int (5 : Int32)], 0, 0)) (M' := (I, J, sm_rf t d)) rfl trivial ?_
              cases h
              exact sm_W.ret (sm_C_mono D) rfl hQ
            · refine sm_W.run (sm_C_mono D) 3 (G := True) (fr' := (if decide (¬ x0 = (9 : Int32)) = true then 31 else 29, [some (.int x0)], [], 0, 0)) (M' := (I, J, sm_rf t d)) rfl trivial (sm_W.iteD h (fun hc h => ?_) (fun hc h => ?_))
              · refine sm_W.run (sm_C_mono D) 1 (G := True) (fr' := (32, [some (.int x0)], [.int (6 : Int32)], 0, 0)) (M' := (I, J, sm_rf t d)) rfl trivial ?_
                cases h
                exact sm_W.ret (sm_C_mono D) rfl hQ
              · refine sm_W.run (sm_C_mono D) 2 (G := True) (fr' := (32, [some (.int x0)], [.int (5 : Int32)], 0, 0)) (M' := (I, J, sm_rf t d)) rfl trivial ?_
                cases h
                exact sm_W.ret (sm_C_mono D) rfl hQ
          · refine sm_W.run (sm_C_mono D) 2 (G := True) (fr' := (32, [some (.int x0)], [.int (4 : Int32)], 0, 0)) (M' := (I, J, sm_rf t d)) rfl trivial ?_
            cases h
            exact sm_W.ret (sm_C_mono D) rfl hQ
      · refine sm_W.run (sm_C_mono D) 2 (G := True) (fr' := (32, [some (.int x0)], [.int (3 : Int32)], 0, 0)) (M' := (I, J, sm_rf t d)) rfl trivial ?_
        cases h
        exact sm_W.ret (sm_C_mono D) rfl hQ
    · refine sm_W.run (sm_C_mono D) 2 (G := True) (fr' := (32, [some (.int x0)], [.int (2 : Int32)], 0, 0)) (M' := (I, J, sm_rf t d)) rfl trivial ?_
      cases h
      exact sm_W.ret (sm_C_mono D) rfl hQ
  · refine sm_W.run (sm_C_mono D) 2 (G := True) (fr' := (32, [some (.int x0)], [.int (1 : Int32)], 0, 0)) (M' := (I, J, sm_rf t d)) rfl trivial ?_
    cases h
    exact sm_W.ret (sm_C_mono D) rfl hQ
theorem T_Mo_strength {X : Nat × (Nat → Int32)} {t d D : Nat} {Q : sm_Q} {I : sm_MI} {J : sm_MJ} {x0 : Int32} {rz : Int32}
    (hD : 1 ≤ D) (h : F_Mo_strength x0 = some (rz)) (hQ : Q (.inl (some (.int rz))) (I, J, sm_rf t d)) : sm_C sm_sh X sm_P D 178 [.int x0] (I, J, sm_rf t d) Q := by
  cases D with
  | zero => omega
  | succ D => exact sm_C.of (me := me_178) (L := [some (.int x0)]) rfl rfl rfl (sm_W.forget (L' := [some (.int x0)]) ⟨rfl, trivial⟩ (G_Mo_strength (by omega) h hQ))
-- 179 Mo_drops
noncomputable def F_Mo_drops_0B (k0 : Int32 → sm_MI → Option (sm_MI)) (x1 : Int32) (I : sm_MI) : Option (sm_MI) :=
  if (I 61 33) ≤ 0 then
    some (I)
  else
    sd_gu (sm_in ((I 61 33) - (1 : Int32)) 950 = true) <|
    sd_q1 (F_Mo_isOpen (I 84 (Int32.toNatClampNeg ((I 61 33) - (1 : Int32))))) fun r2 =>
    if ¬ r2 = 0 then
      some (I)
    else
      sd_gu (sm_in ((I 61 33) - (1 : Int32)) 950 = true) <|
      sd_q1 (F_Mo_strength (I 84 (Int32.toNatClampNeg ((I 61 33) - (1 : Int32))))) fun r4 =>
      if r4 < x1 then
        some (I)
      else
        sd_lt (sd_up I 61 33 ((I 61 33) - (1 : Int32))) fun I5 =>
        sd_gu (sm_in (I5 61 33) 950 = true) <|
        sd_q1 (F_Mo_puts (I5 84 (Int32.toNatClampNeg (I5 61 33))) I5) fun I7 =>
        k0 x1 I7
noncomputable def F_Mo_drops_0  (n : Nat) : Int32 → sm_MI → Option (sm_MI) :=
  sd_fix (fun k x1 I => F_Mo_drops_0B k x1 I) (fun _ _ => none) n
noncomputable def F_Mo_drops (x1 : Int32) (I : sm_MI) : Option (sm_MI) :=
  F_Mo_drops_0 sd_fu x1 I
theorem G_Mo_drops_0B {X : Nat × (Nat → Int32)} {t d D : Nat} {Q : sm_Q} {I : sm_MI} {J : sm_MJ} {k0 : Int32 → sm_MI → Option (sm_MI)} {x1 : Int32} {Iz : sm_MI}
    (hD : 1 ≤ D) (h : F_Mo_drops_0B k0 x1 I = some (Iz)) (hQ : Q (.inl none) (Iz, J, sm_rf t d)) (hk0 : ∀ (x1 : Int32) (I : sm_MI), k0 x1 I = some (Iz) → sm_W sm_sh X (sm_C sm_sh X sm_P D) me_179 Q (0, [some (.ref 61), some (.int x1)], [], 0, 0) (I, J, sm_rf t d)) : sm_W sm_sh X (sm_C sm_sh X sm_P D) me_179 Q (0, [some (.ref 61), some (.int x1)], [], 0, 0) (I, J, sm_rf t d) := by
  unfold F_Mo_drops_0B at h
  refine sm_W.run (sm_C_mono D) 3 (G := True) (fr' := (if decide ((I 61 33) ≤ 0) = true then 36 else 3, [some (.ref 61), some (.int x1)], [], 0, 0)) (M' := (I, J, sm_rf t d)) rfl trivial (sm_W.iteD h (fun hc h => ?_) (fun hc h => ?_))
  · cases h
    exact sm_W.ret (sm_C_mono D) rfl hQ
  · obtain ⟨g1, h⟩ := sd_gu_go h
    refine sm_W.run (sm_C_mono D) 7 (G := sm_in ((I 61 33) - (1 : Int32)) 950 = true ∧ True) (fr' := (10, [some (.ref 61), some (.int x1)], [.int (I 84 (Int32.toNatClampNeg ((I 61 33) - (1 : Int32))))], 0, 0)) (M' := (I, J, sm_rf t d)) rfl ⟨g1, trivial⟩ ?_
    obtain ⟨r2, hc, h⟩ := sd_q1_go h
    refine sm_W.cal (sm_C_mono D) (y := 177) (as := [.int (I 84 (Int32.toNatClampNeg ((I 61 33) - (1 : Int32))))]) (fr' := (11, [some (.ref 61), some (.int x1)], [], 0, 0)) rfl (T_Mo_isOpen (by omega) hc ?_)
    show sm_W sm_sh X (sm_C sm_sh X sm_P D) me_179 Q (11, [some (.ref 61), some (.int x1)], [.int r2], 0, 0) (I, J, sm_rf t d)
    refine sm_W.run (sm_C_mono D) 1 (G := True) (fr' := (if decide (¬ r2 = 0) = true then 36 else 12, [some (.ref 61), some (.int x1)], [], 0, 0)) (M' := (I, J, sm_rf t d)) rfl trivial (sm_W.iteD h (fun hc h => ?_) (fun hc h => ?_))
    · cases h
      exact sm_W.ret (sm_C_mono D) rfl hQ
    · obtain ⟨g3, h⟩ := sd_gu_go h
      refine sm_W.run (sm_C_mono D) 7 (G := sm_in ((I 61 33) - (1 : Int32)) 950 = true ∧ True) (fr' := (19, [some (.ref 61), some (.int x1)], [.int (I 84 (Int32.toNatClampNeg ((I 61 33) - (1 : Int32))))], 0, 0)) (M' := (I, J, sm_rf t d)) rfl ⟨g3, trivial⟩ ?_
      obtain ⟨r4, hc, h⟩ := sd_q1_go h
      refine sm_W.cal (sm_C_mono D) (y := 178) (as := [.int (I 84 (Int32.toNatClampNeg ((I 61 33) - (1 : Int32))))]) (fr' := (20, [some (.ref 61), some (.int x1)], [], 0, 0)) rfl (T_Mo_strength (by omega) hc ?_)
      show sm_W sm_sh X (sm_C sm_sh X sm_P D) me_179 Q (20, [some (.ref 61), some (.int x1)], [.int r4], 0, 0) (I, J, sm_rf t d)
      refine sm_W.run (sm_C_mono D) 2 (G := True) (fr' := (if decide (r4 < x1) = true then 36 else 22, [some (.ref 61), some (.int x1)], [], 0, 0)) (M' := (I, J, sm_rf t d)) rfl trivial (sm_W.iteD h (fun hc h => ?_) (fun hc h => ?_))
      · cases h
        exact sm_W.ret (sm_C_mono D) rfl hQ
      · refine sm_W.runL (sm_C_mono D) 6 (G := True) (e := (sd_up I 61 33 ((I 61 33) - (1 : Int32)))) (fr' := fun _ => (28, [some (.ref 61), some (.int x1)], [], 0, 0)) (M' := fun I5 => (I5, J, sm_rf t d)) rfl h trivial (fun I5 h => ?_)
        obtain ⟨g6, h⟩ := sd_gu_go h
        refine sm_W.run (sm_C_mono D) 6 (G := sm_in (I5 61 33) 950 = true ∧ True) (fr' := (34, [some (.ref 61), some (.int x1)], [.int (I5 84 (Int32.toNatClampNeg (I5 61 33))), .ref 61], 0, 0)) (M' := (I5, J, sm_rf t d)) rfl ⟨g6, trivial⟩ ?_
        obtain ⟨I7, hc, h⟩ := sd_q1_go h
        refine sm_W.cal (sm_C_mono D) (y := 176) (as := [.ref 61, .int (I5 84 (Int32.toNatClampNeg (I5 61 33)))]) (fr' := (35, [some (.ref 61), some (.int x1)], [], 0, 0)) rfl (T_Mo_puts (by omega) hc ?_)
        show sm_W sm_sh X (sm_C sm_sh X sm_P D) me_179 Q (35, [some (.ref 61), some (.int x1)], [], 0, 0) (I7, J, sm_rf t d)
        refine sm_W.run (sm_C_mono D) 1 (G := True) (fr' := (0, [some (.ref 61), some (.int x1)], [], 0, 0)) (M' := (I7, J, sm_rf t d)) rfl trivial ?_
        exact (hk0 _ _ h)
theorem G_Mo_drops_0 {X : Nat × (Nat → Int32)} {t d D : Nat} {Q : sm_Q} {J : sm_MJ} {Iz : sm_MI}
    (hD : 1 ≤ D) (hQ : Q (.inl none) (Iz, J, sm_rf t d))  : ∀ (n : Nat) (x1 : Int32) (I : sm_MI), F_Mo_drops_0 n x1 I = some (Iz) → sm_W sm_sh X (sm_C sm_sh X sm_P D) me_179 Q (0, [some (.ref 61), some (.int x1)], [], 0, 0) (I, J, sm_rf t d) := by
  intro n
  induction n with
  | zero => intro x1 I h; cases (show (none : Option (sm_MI)) = some (Iz) from h)
  | succ n ih => intro x1 I h; exact G_Mo_drops_0B hD (show F_Mo_drops_0B (F_Mo_drops_0 n) x1 I = some (Iz) from h) hQ  ih
theorem T_Mo_drops {X : Nat × (Nat → Int32)} {t d D : Nat} {Q : sm_Q} {I : sm_MI} {J : sm_MJ} {x1 : Int32} {Iz : sm_MI}
    (hD : 2 ≤ D) (h : F_Mo_drops x1 I = some (Iz)) (hQ : Q (.inl none) (Iz, J, sm_rf t d)) : sm_C sm_sh X sm_P D 179 [.ref 61, .int x1] (I, J, sm_rf t d) Q := by
  cases D with
  | zero => omega
  | succ D => exact sm_C.of (me := me_179) (L := [some (.ref 61), some (.int x1)]) rfl rfl rfl (sm_W.forget (L' := [some (.ref 61), some (.int x1)]) ⟨rfl, ⟨rfl, trivial⟩⟩ (G_Mo_drops_0 (by omega) hQ sd_fu _ _ h))
-- 180 Mo_waitsFor
noncomputable def F_Mo_waitsFor (x1 : Int32) (I : sm_MI) : Option (sm_MI) :=
  sd_gu (sm_in (I 61 33) 950 = true) <|
  sd_lt (sd_up I 84 (Int32.toNatClampNeg (I 61 33)) x1) fun I2 =>
  sd_lt (sd_up I2 61 33 ((I2 61 33) + (1 : Int32))) fun I3 =>
  some (I3)
theorem G_Mo_waitsFor {X : Nat × (Nat → Int32)} {t d D : Nat} {Q : sm_Q} {I : sm_MI} {J : sm_MJ} {x1 : Int32} {Iz : sm_MI}
    (hD : 0 ≤ D) (h : F_Mo_waitsFor x1 I = some (Iz)) (hQ : Q (.inl none) (Iz, J, sm_rf t d))  : sm_W sm_sh X (sm_C sm_sh X sm_P D) me_180 Q (0, [some (.ref 61), some (.int x1)], [], 0, 0) (I, J, sm_rf t d) := by
  unfold F_Mo_waitsFor at h
  obtain ⟨g1, h⟩ := sd_gu_go h
  refine sm_W.runL (sm_C_mono D) 6 (G := sm_in (I 61 33) 950 = true ∧ True) (e := (sd_up I 84 (Int32.toNatClampNeg (I 61 33)) x1)) (fr' := fun _ => (6, [some (.ref 61), some (.int x1)], [], 0, 0)) (M' := fun I2 => (I2, J, sm_rf t d)) rfl h ⟨g1, trivial⟩ (fun I2 h => ?_)
  refine sm_W.runL (sm_C_mono D) 6 (G := True) (e := (sd_up I2 61 33 ((I2 61 33) + (1 : Int32)))) (fr' := fun _ => (12, [some (.ref 61), some (.int x1)], [], 0, 0)) (M' := fun I3 => (I3, J, sm_rf t d)) rfl h trivial (fun I3 h => ?_)
  cases h
  exact sm_W.ret (sm_C_mono D) rfl hQ
theorem T_Mo_waitsFor {X : Nat × (Nat → Int32)} {t d D : Nat} {Q : sm_Q} {I : sm_MI} {J : sm_MJ} {x1 : Int32} {Iz : sm_MI}
    (hD : 1 ≤ D) (h : F_Mo_waitsFor x1 I = some (Iz)) (hQ : Q (.inl none) (Iz, J, sm_rf t d)) : sm_C sm_sh X sm_P D 180 [.ref 61, .int x1] (I, J, sm_rf t d) Q := by
  cases D with
  | zero => omega
  | succ D => exact sm_C.of (me := me_180) (L := [some (.ref 61), some (.int x1)]) rfl rfl rfl (sm_W.forget (L' := [some (.ref 61), some (.int x1)]) ⟨rfl, ⟨rfl, trivial⟩⟩ (G_Mo_waitsFor (by omega) h hQ))
-- 181 Mo_part
noncomputable def F_Mo_part_51 (I : sm_MI) (J : sm_MJ) : Option (sm_MI × sm_MJ) :=
  sd_q1 (F_Mo_isGood I) fun r1 =>
  if r1 = 0 then
    some (I, J)
  else
    sd_q2 (F_Mo_goes I J) fun I2 J3 =>
    some (I2, J3)
noncomputable def F_Mo_part_41 (x1 : Int32) (I : sm_MI) (J : sm_MJ) : Option (sm_MI × sm_MJ) :=
  sd_q1 (F_Mo_puts (2 : Int32) I) fun I1 =>
  sd_q1 (F_Mo_puts x1 I1) fun I2 =>
  F_Mo_part_51 I2 J
noncomputable def F_Mo_part_38 (x1 : Int32) (I : sm_MI) (J : sm_MJ) : Option (sm_MI × sm_MJ) :=
  sd_q1 (F_Mo_wrong (3 : Int32) I) fun I1 =>
  F_Mo_part_41 x1 I1 J
noncomputable def F_Mo_part_15 (I : sm_MI) (J : sm_MJ) : Option (sm_MI × sm_MJ) :=
  sd_q1 (F_Mo_puts (1 : Int32) I) fun I1 =>
  sd_q1 (F_Mo_puts (I1 61 24) I1) fun I2 =>
  F_Mo_part_51 I2 J
noncomputable def F_Mo_part (I : sm_MI) (J : sm_MJ) : Option (sm_MI × sm_MJ) :=
  sd_q1 (F_Mo_isGood I) fun r1 =>
  if ¬ r1 = 0 then
    if ¬ (I 61 21) = (2 : Int32) then
      if ¬ (I 61 21) = (1 : Int32) then
        sd_q1 (F_Mo_wrong (1 : Int32) I) fun I2 =>
        F_Mo_part_51 I2 J
      else
        sd_q1 (F_Mo_knownWord I J) fun r3 =>
        if r3 < (I 61 31) then
          F_Mo_part_38 r3 I J
        else
          if r3 ≤ (I 61 32) then
            F_Mo_part_41 r3 I J
          else
            F_Mo_part_38 r3 I J
    else
      if (I 61 23) ≤ (4 : Int32) then
        F_Mo_part_15 I J
      else
        sd_q1 (F_Mo_wrong (2 : Int32) I) fun I4 =>
        F_Mo_part_15 I4 J
  else
    some (I, J)
theorem G_Mo_part_51 {X : Nat × (Nat → Int32)} {t d D : Nat} {Q : sm_Q} {I : sm_MI} {J : sm_MJ} {Iz : sm_MI} {Jz : sm_MJ}
    (hD : 3 ≤ D) (h : F_Mo_part_51 I J = some (Iz, Jz)) (hQ : Q (.inl none) (Iz, Jz, sm_rf t d))  : sm_W sm_sh X (sm_C sm_sh X sm_P D) me_181 Q (51, [some (.ref 61), none], [], 0, 0) (I, J, sm_rf t d) := by
  unfold F_Mo_part_51 at h
  refine sm_W.run (sm_C_mono D) 1 (G := True) (fr' := (52, [some (.ref 61), none], [.ref 61], 0, 0)) (M' := (I, J, sm_rf t d)) rfl trivial ?_
  obtain ⟨r1, hc, h⟩ := sd_q1_go h
  refine sm_W.cal (sm_C_mono D) (y := 172) (as := [.ref 61]) (fr' := (53, [some (.ref 61), none], [], 0, 0)) rfl (T_Mo_isGood (by omega) hc ?_)
  show sm_W sm_sh X (sm_C sm_sh X sm_P D) me_181 Q (53, [some (.ref 61), none], [.int r1], 0, 0) (I, J, sm_rf t d)
  refine sm_W.run (sm_C_mono D) 1 (G := True) (fr' := (if decide (r1 = 0) = true then 56 else 54, [some (.ref 61), none], [], 0, 0)) (M' := (I, J, sm_rf t d)) rfl trivial (sm_W.iteD h (fun hc h => ?_) (fun hc h => ?_))
  · cases h
    exact sm_W.ret (sm_C_mono D) rfl hQ
  · refine sm_W.run (sm_C_mono D) 1 (G := True) (fr' := (55, [some (.ref 61), none], [.ref 61], 0, 0)) (M' := (I, J, sm_rf t d)) rfl trivial ?_
    obtain ⟨I2, J3, hc, h⟩ := sd_q2_go h
    refine sm_W.cal (sm_C_mono D) (y := 167) (as := [.ref 61]) (fr' := (56, [some (.ref 61), none], [], 0, 0)) rfl (T_Mo_goes (by omega) hc ?_)
    show sm_W sm_sh X (sm_C sm_sh X sm_P D) me_181 Q (56, [some (.ref 61), none], [], 0, 0) (I2, J3, sm_rf t d)
    cases h
    exact sm_W.ret (sm_C_mono D) rfl hQ
theorem G_Mo_part_41 {X : Nat × (Nat → Int32)} {t d D : Nat} {Q : sm_Q} {I : sm_MI} {J : sm_MJ} {x1 : Int32} {Iz : sm_MI} {Jz : sm_MJ}
    (hD : 3 ≤ D) (h : F_Mo_part_41 x1 I J = some (Iz, Jz)) (hQ : Q (.inl none) (Iz, Jz, sm_rf t d))  : sm_W sm_sh X (sm_C sm_sh X sm_P D) me_181 Q (41, [some (.ref 61), some (.int x1)], [], 0, 0) (I, J, sm_rf t d) := by
  unfold F_Mo_part_41 at h
  refine sm_W.run (sm_C_mono D) 2 (G := True) (fr' := (43, [some (.ref 61), some (.int x1)], [.int (2 : Int32), .ref 61], 0, 0)) (M' := (I, J, sm_rf t d)) rfl trivial ?_
  obtain ⟨I1, hc, h⟩ := sd_q1_go h
  refine sm_W.cal (sm_C_mono D) (y := 176) (as := [.ref 61, .int (2 : Int32)]) (fr' := (44, [some (.ref 61), some (.int x1)], [], 0, 0)) rfl (T_Mo_puts (by omega) hc ?_)
  show sm_W sm_sh X (sm_C sm_sh X sm_P D) me_181 Q (44, [some (.ref 61), some (.int x1)], [], 0, 0) (I1, J, sm_rf t d)
  refine sm_W.run (sm_C_mono D) 2 (G := True) (fr' := (46, [some (.ref 61), some (.int x1)], [.int x1, .ref 61], 0, 0)) (M' := (I1, J, sm_rf t d)) rfl trivial ?_
  obtain ⟨I2, hc, h⟩ := sd_q1_go h
  refine sm_W.cal (sm_C_mono D) (y := 176) (as := [.ref 61, .int x1]) (fr' := (47, [some (.ref 61), some (.int x1)], [], 0, 0)) rfl (T_Mo_puts (by omega) hc ?_)
  show sm_W sm_sh X (sm_C sm_sh X sm_P D) me_181 Q (47, [some (.ref 61), some (.int x1)], [], 0, 0) (I2, J, sm_rf t d)
  refine sm_W.run (sm_C_mono D) 1 (G := True) (fr' := (51, [some (.ref 61), some (.int x1)], [], 0, 0)) (M' := (I2, J, sm_rf t d)) rfl trivial ?_
  exact sm_W.forget (L' := [some (.ref 61), none]) ⟨rfl, trivial⟩ (G_Mo_part_51 hD h hQ)
theorem G_Mo_part_38 {X : Nat × (Nat → Int32)} {t d D : Nat} {Q : sm_Q} {I : sm_MI} {J : sm_MJ} {x1 : Int32} {Iz : sm_MI} {Jz : sm_MJ}
    (hD : 3 ≤ D) (h : F_Mo_part_38 x1 I J = some (Iz, Jz)) (hQ : Q (.inl none) (Iz, Jz, sm_rf t d))  : sm_W sm_sh X (sm_C sm_sh X sm_P D) me_181 Q (38, [some (.ref 61), some (.int x1)], [], 0, 0) (I, J, sm_rf t d) := by
  unfold F_Mo_part_38 at h
  refine sm_W.run (sm_C_mono D) 2 (G := True) (fr' := (40, [some (.ref 61), some (.int x1)], [.int (3 : Int32), .ref 61], 0, 0)) (M' := (I, J, sm_rf t d)) rfl trivial ?_
  obtain ⟨I1, hc, h⟩ := sd_q1_go h
  refine sm_W.cal (sm_C_mono D) (y := 171) (as := [.ref 61, .int (3 : Int32)]) (fr' := (41, [some (.ref 61), some (.int x1)], [], 0, 0)) rfl (T_Mo_wrong (by omega) hc ?_)
  show sm_W sm_sh X (sm_C sm_sh X sm_P D) me_181 Q (41, [some (.ref 61), some (.int x1)], [], 0, 0) (I1, J, sm_rf t d)
  exact (G_Mo_part_41 hD h hQ)
theorem G_Mo_part_15 {X : Nat × (Nat → Int32)} {t d D : Nat} {Q : sm_Q} {I : sm_MI} {J : sm_MJ} {Iz : sm_MI} {Jz : sm_MJ}
    (hD : 3 ≤ D) (h : F_Mo_part_15 I J = some (Iz, Jz)) (hQ : Q (.inl none) (Iz, Jz, sm_rf t d))  : sm_W sm_sh X (sm_C sm_sh X sm_P D) me_181 Q (15, [some (.ref 61), none], [], 0, 0) (I, J, sm_rf t d) := by
  unfold F_Mo_part_15 at h
  refine sm_W.run (sm_C_mono D) 2 (G := True) (fr' := (17, [some (.ref 61), none], [.int (1 : Int32), .ref 61], 0, 0)) (M' := (I, J, sm_rf t d)) rfl trivial ?_
  obtain ⟨I1, hc, h⟩ := sd_q1_go h
  refine sm_W.cal (sm_C_mono D) (y := 176) (as := [.ref 61, .int (1 : Int32)]) (fr' := (18, [some (.ref 61), none], [], 0, 0)) rfl (T_Mo_puts (by omega) hc ?_)
  show sm_W sm_sh X (sm_C sm_sh X sm_P D) me_181 Q (18, [some (.ref 61), none], [], 0, 0) (I1, J, sm_rf t d)
  refine sm_W.run (sm_C_mono D) 3 (G := True) (fr' := (21, [some (.ref 61), none], [.int (I1 61 24), .ref 61], 0, 0)) (M' := (I1, J, sm_rf t d)) rfl trivial ?_
  obtain ⟨I2, hc, h⟩ := sd_q1_go h
  refine sm_W.cal (sm_C_mono D) (y := 176) (as := [.ref 61, .int (I1 61 24)]) (fr' := (22, [some (.ref 61), none], [], 0, 0)) rfl (T_Mo_puts (by omega) hc ?_)
  show sm_W sm_sh X (sm_C sm_sh X sm_P D) me_181 Q (22, [some (.ref 61), none], [], 0, 0) (I2, J, sm_rf t d)
  refine sm_W.run (sm_C_mono D) 1 (G := True) (fr' := (51, [some (.ref 61), none], [], 0, 0)) (M' := (I2, J, sm_rf t d)) rfl trivial ?_
  exact (G_Mo_part_51 hD h hQ)
theorem G_Mo_part {X : Nat × (Nat → Int32)} {t d D : Nat} {Q : sm_Q} {I : sm_MI} {J : sm_MJ} {Iz : sm_MI} {Jz : sm_MJ}
    (hD : 3 ≤ D) (h : F_Mo_part I J = some (Iz, Jz)) (hQ : Q (.inl none) (Iz, Jz, sm_rf t d))  : sm_W sm_sh X (sm_C sm_sh X sm_P D) me_181 Q (0, [some (.ref 61), none], [], 0, 0) (I, J, sm_rf t d) := by
  unfold F_Mo_part at h
  refine sm_W.run (sm_C_mono D) 1 (G := True) (fr' := (1, [some (.ref 61), none], [.ref 61], 0, 0)) (M' := (I, J, sm_rf t d)) rfl trivial ?_
  obtain ⟨r1, hc, h⟩ := sd_q1_go h
  refine sm_W.cal (sm_C_mono D) (y := 172) (as := [.ref 61]) (fr' := (2, [some (.ref 61), none], [], 0, 0)) rfl (T_Mo_isGood (by omega) hc ?_)
  show sm_W sm_sh X (sm_C sm_sh X sm_P D) me_181 Q (2, [some (.ref 61), none], [.int r1], 0, 0) (I, J, sm_rf t d)
  refine sm_W.run (sm_C_mono D) 1 (G := True) (fr' := (if decide (¬ r1 = 0) = true then 4 else 3, [some (.ref 61), none], [], 0, 0)) (M' := (I, J, sm_rf t d)) rfl trivial (sm_W.iteD h (fun hc h => ?_) (fun hc h => ?_))
  · refine sm_W.run (sm_C_mono D) 4 (G := True) (fr' := (if decide (¬ (I 61 21) = (2 : Int32)) = true then 23 else 8, [some (.ref 61), none], [], 0, 0)) (M' := (I, J, sm_rf t d)) rfl trivial (sm_W.iteD h (fun hc h => ?_) (fun hc h => ?_))
    · refine sm_W.run (sm_C_mono D) 4 (G := True) (fr' := (if decide (¬ (I 61 21) = (1 : Int32)) = true then 48 else 27, [some (.ref 61), none], [], 0, 0)) (M' := (I, J, sm_rf t d)) rfl trivial (sm_W.iteD h (fun hc h => ?_) (fun hc h => ?_))
      · refine sm_W.run (sm_C_mono D) 2 (G := True) (fr' := (50, [some (.ref 61), none], [.int (1 : Int32), .ref 61], 0, 0)) (M' := (I, J, sm_rf t d)) rfl trivial ?_
        obtain ⟨I2, hc, h⟩ := sd_q1_go h
        refine sm_W.cal (sm_C_mono D) (y := 171) (as := [.ref 61, .int (1 : Int32)]) (fr' := (51, [some (.ref 61), none], [], 0, 0)) rfl (T_Mo_wrong (by omega) hc ?_)
        show sm_W sm_sh X (sm_C sm_sh X sm_P D) me_181 Q (51, [some (.ref 61), none], [], 0, 0) (I2, J, sm_rf t d)
        exact (G_Mo_part_51 hD h hQ)
      · refine sm_W.run (sm_C_mono D) 1 (G := True) (fr' := (28, [some (.ref 61), none], [.ref 61], 0, 0)) (M' := (I, J, sm_rf t d)) rfl trivial ?_
        obtain ⟨r3, hc, h⟩ := sd_q1_go h
        refine sm_W.cal (sm_C_mono D) (y := 170) (as := [.ref 61]) (fr' := (29, [some (.ref 61), none], [], 0, 0)) rfl (T_Mo_knownWord (by omega) hc ?_)
        show sm_W sm_sh X (sm_C sm_sh X sm_P D) me_181 Q (29, [some (.ref 61), none], [.int r3], 0, 0) (I, J, sm_rf t d)
        refine sm_W.run (sm_C_mono D) 5 (G := True) (fr' := (if decide (r3 < (I 61 31)) = true then 38 else 34, [some (.ref 61), some (.int r3)], [], 0, 0)) (M' := (I, J, sm_rf t d)) rfl trivial (sm_W.iteD h (fun hc h => ?_) (fun hc h => ?_))
        · exact (G_Mo_part_38 hD h hQ)
        · refine sm_W.run (sm_C_mono D) 4 (G := True) (fr' := (if decide (r3 ≤ (I 61 32)) = true then 41 else 38, [some (.ref 61), some (.int r3)], [], 0, 0)) (M' := (I, J, sm_rf t d)) rfl trivial (sm_W.iteD h (fun hc h => ?_) (fun hc h => ?_))
          · exact (G_Mo_part_41 hD h hQ)
          · exact (G_Mo_part_38 hD h hQ)
    · refine sm_W.run (sm_C_mono D) 4 (G := True) (fr' := (if decide ((I 61 23) ≤ (4 : Int32)) = true then 15 else 12, [some (.ref 61), none], [], 0, 0)) (M' := (I, J, sm_rf t d)) rfl trivial (sm_W.iteD h (fun hc h => ?_) (fun hc h => ?_))
      · exact (G_Mo_part_15 hD h hQ)
      · refine sm_W.run (sm_C_mono D) 2 (G := True) (fr' := (14, [some (.ref 61), none], [.int (2 : Int32), .ref 61], 0, 0)) (M' := (I, J, sm_rf t d)) rfl trivial ?_
        obtain ⟨I4, hc, h⟩ := sd_q1_go h
        refine sm_W.cal (sm_C_mono D) (y := 171) (as := [.ref 61, .int (2 : Int32)]) (fr' := (15, [some (.ref 61), none], [], 0, 0)) rfl (T_Mo_wrong (by omega) hc ?_)
        show sm_W sm_sh X (sm_C sm_sh X sm_P D) me_181 Q (15, [some (.ref 61), none], [], 0, 0) (I4, J, sm_rf t d)
        exact (G_Mo_part_15 hD h hQ)
  · cases h
    exact sm_W.ret (sm_C_mono D) rfl hQ
theorem T_Mo_part {X : Nat × (Nat → Int32)} {t d D : Nat} {Q : sm_Q} {I : sm_MI} {J : sm_MJ} {Iz : sm_MI} {Jz : sm_MJ}
    (hD : 4 ≤ D) (h : F_Mo_part I J = some (Iz, Jz)) (hQ : Q (.inl none) (Iz, Jz, sm_rf t d)) : sm_C sm_sh X sm_P D 181 [.ref 61] (I, J, sm_rf t d) Q := by
  cases D with
  | zero => omega
  | succ D => exact sm_C.of (me := me_181) (L := [some (.ref 61), none]) rfl rfl rfl (sm_W.forget (L' := [some (.ref 61), none]) ⟨rfl, trivial⟩ (G_Mo_part (by omega) h hQ))
-- 182 Mo_deeper
noncomputable def F_Mo_deeper_33 (s1 : Int32) (I : sm_MI) : Option (sm_MI) :=
  sd_q1 (F_Mo_wrong s1 I) fun I1 =>
  some (I1)
noncomputable def F_Mo_deeper (I : sm_MI) : Option (sm_MI) :=
  if (6 : Int32) ≤ (I 61 34) then
    if (I 61 21) = (2 : Int32) then
      F_Mo_deeper_33 (2 : Int32) I
    else
      if (I 61 21) = (1 : Int32) then
        F_Mo_deeper_33 (2 : Int32) I
      else
        sd_q1 (F_Mo_isSign (40 : Int32) I) fun r1 =>
        if r1 = 0 then
          F_Mo_deeper_33 (1 : Int32) I
        else
          F_Mo_deeper_33 (2 : Int32) I
  else
    sd_lt (sd_up I 61 34 ((I 61 34) + (1 : Int32))) fun I2 =>
    sd_gu (sm_in (I2 61 34) 9 = true) <|
    sd_lt (sd_up I2 85 (Int32.toNatClampNeg (I2 61 34)) (vp_nar .boolean (0 : Int32))) fun I4 =>
    some (I4)
theorem G_Mo_deeper_33 {X : Nat × (Nat → Int32)} {t d D : Nat} {Q : sm_Q} {I : sm_MI} {J : sm_MJ} {s1 : Int32} {Iz : sm_MI}
    (hD : 1 ≤ D) (h : F_Mo_deeper_33 s1 I = some (Iz)) (hQ : Q (.inl none) (Iz, J, sm_rf t d))  : sm_W sm_sh X (sm_C sm_sh X sm_P D) me_182 Q (33, [none], [.int s1, .ref 61], 0, 0) (I, J, sm_rf t d) := by
  unfold F_Mo_deeper_33 at h
  obtain ⟨I1, hc, h⟩ := sd_q1_go h
  refine sm_W.cal (sm_C_mono D) (y := 171) (as := [.ref 61, .int s1]) (fr' := (34, [none], [], 0, 0)) rfl (T_Mo_wrong (by omega) hc ?_)
  show sm_W sm_sh X (sm_C sm_sh X sm_P D) me_182 Q (34, [none], [], 0, 0) (I1, J, sm_rf t d)
  cases h
  exact sm_W.ret (sm_C_mono D) rfl hQ
theorem G_Mo_deeper {X : Nat × (Nat → Int32)} {t d D : Nat} {Q : sm_Q} {I : sm_MI} {J : sm_MJ} {Iz : sm_MI}
    (hD : 1 ≤ D) (h : F_Mo_deeper I = some (Iz)) (hQ : Q (.inl none) (Iz, J, sm_rf t d))  : sm_W sm_sh X (sm_C sm_sh X sm_P D) me_182 Q (0, [some (.ref 61)], [], 0, 0) (I, J, sm_rf t d) := by
  unfold F_Mo_deeper at h
  refine sm_W.run (sm_C_mono D) 4 (G := True) (fr' := (if decide ((6 : Int32) ≤ (I 61 34)) = true then 17 else 4, [some (.ref 61)], [], 0, 0)) (M' := (I, J, sm_rf t d)) rfl trivial (sm_W.iteD h (fun hc h => ?_) (fun hc h => ?_))
  · refine sm_W.run (sm_C_mono D) 5 (G := True) (fr' := (if decide ((I 61 21) = (2 : Int32)) = true then 30 else 22, [some (.ref 61)], [.ref 61], 0, 0)) (M' := (I, J, sm_rf t d)) rfl trivial (sm_W.iteD h (fun hc h => ?_) (fun hc h => ?_))
    · refine sm_W.run (sm_C_mono D) 2 (G := True) (fr' := (33, [some (.ref 61)], [.int (2 : Int32), .ref 61], 0, 0)) (M' := (I, J, sm_rf t d)) rfl trivial ?_
      exact sm_W.forget (L' := [none]) trivial (G_Mo_deeper_33 hD h hQ)
    · refine sm_W.run (sm_C_mono D) 4 (G := True) (fr' := (if decide ((I 61 21) = (1 : Int32)) = true then 30 else 26, [some (.ref 61)], [.ref 61], 0, 0)) (M' := (I, J, sm_rf t d)) rfl trivial (sm_W.iteD h (fun hc h => ?_) (fun hc h => ?_))
      · refine sm_W.run (sm_C_mono D) 2 (G := True) (fr' := (33, [some (.ref 61)], [.int (2 : Int32), .ref 61], 0, 0)) (M' := (I, J, sm_rf t d)) rfl trivial ?_
        exact sm_W.forget (L' := [none]) trivial (G_Mo_deeper_33 hD h hQ)
      · refine sm_W.run (sm_C_mono D) 2 (G := True) (fr' := (28, [some (.ref 61)], [.int (40 : Int32), .ref 61, .ref 61], 0, 0)) (M' := (I, J, sm_rf t d)) rfl trivial ?_
        obtain ⟨r1, hc, h⟩ := sd_q1_go h
        refine sm_W.cal (sm_C_mono D) (y := 173) (as := [.ref 61, .int (40 : Int32)]) (fr' := (29, [some (.ref 61)], [.ref 61], 0, 0)) rfl (T_Mo_isSign (by omega) hc ?_)
        show sm_W sm_sh X (sm_C sm_sh X sm_P D) me_182 Q (29, [some (.ref 61)], [.int r1, .ref 61], 0, 0) (I, J, sm_rf t d)
        refine sm_W.run (sm_C_mono D) 1 (G := True) (fr' := (if decide (r1 = 0) = true then 32 else 30, [some (.ref 61)], [.ref 61], 0, 0)) (M' := (I, J, sm_rf t d)) rfl trivial (sm_W.iteD h (fun hc h => ?_) (fun hc h => ?_))
        · refine sm_W.run (sm_C_mono D) 1 (G := True) (fr' := (33, [some (.ref 61)], [.int (1 : Int32), .ref 61], 0, 0)) (M' := (I, J, sm_rf t d)) rfl trivial ?_
          exact sm_W.forget (L' := [none]) trivial (G_Mo_deeper_33 hD h hQ)
        · refine sm_W.run (sm_C_mono D) 2 (G := True) (fr' := (33, [some (.ref 61)], [.int (2 : Int32), .ref 61], 0, 0)) (M' := (I, J, sm_rf t d)) rfl trivial ?_
          exact sm_W.forget (L' := [none]) trivial (G_Mo_deeper_33 hD h hQ)
  · refine sm_W.runL (sm_C_mono D) 6 (G := True) (e := (sd_up I 61 34 ((I 61 34) + (1 : Int32)))) (fr' := fun _ => (10, [some (.ref 61)], [], 0, 0)) (M' := fun I2 => (I2, J, sm_rf t d)) rfl h trivial (fun I2 h => ?_)
    obtain ⟨g3, h⟩ := sd_gu_go h
    refine sm_W.runL (sm_C_mono D) 6 (G := sm_in (I2 61 34) 9 = true ∧ True) (e := (sd_up I2 85 (Int32.toNatClampNeg (I2 61 34)) (vp_nar .boolean (0 : Int32)))) (fr' := fun _ => (16, [some (.ref 61)], [], 0, 0)) (M' := fun I4 => (I4, J, sm_rf t d)) rfl h ⟨g3, trivial⟩ (fun I4 h => ?_)
    cases h
    exact sm_W.ret (sm_C_mono D) rfl hQ
theorem T_Mo_deeper {X : Nat × (Nat → Int32)} {t d D : Nat} {Q : sm_Q} {I : sm_MI} {J : sm_MJ} {Iz : sm_MI}
    (hD : 2 ≤ D) (h : F_Mo_deeper I = some (Iz)) (hQ : Q (.inl none) (Iz, J, sm_rf t d)) : sm_C sm_sh X sm_P D 182 [.ref 61] (I, J, sm_rf t d) Q := by
  cases D with
  | zero => omega
  | succ D => exact sm_C.of (me := me_182) (L := [some (.ref 61)]) rfl rfl rfl (sm_W.forget (L' := [some (.ref 61)]) ⟨rfl, trivial⟩ (G_Mo_deeper (by omega) h hQ))
-- 183 Mo_operand
noncomputable def F_Mo_operand_60 (I : sm_MI) (J : sm_MJ) : Option (sm_MI × sm_MJ) :=
  sd_q2 (F_Mo_part I J) fun I1 J2 =>
  some (I1, J2)
noncomputable def F_Mo_operand_47 (k4 : Int32 → Int32 → sm_MI → sm_MJ → Option (sm_MI × sm_MJ)) (x2 : Int32) (s0 : Int32) (I : sm_MI) (J : sm_MJ) : Option (sm_MI × sm_MJ) :=
  if s0 = 0 then
    k4 x2 s0 I J
  else
    sd_q1 (F_Mo_waitsFor (14 : Int32) I) fun I1 =>
    sd_q2 (F_Mo_goes I1 J) fun I2 J3 =>
    sd_q1 (F_Mo_deeper I2) fun I4 =>
    k4 (1 : Int32) s0 I4 J3
noncomputable def F_Mo_operand_37 (k4 : Int32 → Int32 → sm_MI → sm_MJ → Option (sm_MI × sm_MJ)) (x2 : Int32) (I : sm_MI) (J : sm_MJ) : Option (sm_MI × sm_MJ) :=
  sd_q1 (F_Mo_isGood I) fun r1 =>
  if r1 = 0 then
    F_Mo_operand_47 k4 x2 (0 : Int32) I J
  else
    sd_q1 (F_Mo_isSign (40 : Int32) I) fun r2 =>
    if r2 = 0 then
      F_Mo_operand_47 k4 x2 (0 : Int32) I J
    else
      F_Mo_operand_47 k4 x2 (1 : Int32) I J
noncomputable def F_Mo_operand_26 (k11 : Int32 → Int32 → sm_MI → sm_MJ → Option (sm_MI × sm_MJ)) (x2 : Int32) (x4 : Int32) (I : sm_MI) (J : sm_MJ) : Option (sm_MI × sm_MJ) :=
  sd_q1 (F_Mo_isGood I) fun r1 =>
  if ¬ r1 = 0 then
    sd_q1 (F_Mo_waitsFor (3 : Int32) I) fun I2 =>
    sd_q2 (F_Mo_goes I2 J) fun I3 J4 =>
    k11 x2 (x4 + (1 : Int32)) I3 J4
  else
    k11 x2 (x4 + (1 : Int32)) I J
noncomputable def F_Mo_operand_11B (k4 : Int32 → Int32 → sm_MI → sm_MJ → Option (sm_MI × sm_MJ)) (k11 : Int32 → Int32 → sm_MI → sm_MJ → Option (sm_MI × sm_MJ)) (x2 : Int32) (x4 : Int32) (I : sm_MI) (J : sm_MJ) : Option (sm_MI × sm_MJ) :=
  sd_q1 (F_Mo_isGood I) fun r1 =>
  if r1 = 0 then
    F_Mo_operand_37 k4 x2 I J
  else
    if x2 = 0 then
      F_Mo_operand_37 k4 x2 I J
    else
      sd_q1 (F_Mo_knownWord I J) fun r2 =>
      if ¬ r2 = (23 : Int32) then
        F_Mo_operand_37 k4 x2 I J
      else
        if ¬ x4 = (6 : Int32) then
          F_Mo_operand_26 k11 x2 x4 I J
        else
          sd_q1 (F_Mo_wrong (2 : Int32) I) fun I3 =>
          F_Mo_operand_26 k11 x2 x4 I3 J
noncomputable def F_Mo_operand_11 (k4 : Int32 → Int32 → sm_MI → sm_MJ → Option (sm_MI × sm_MJ)) (n : Nat) : Int32 → Int32 → sm_MI → sm_MJ → Option (sm_MI × sm_MJ) :=
  sd_fix (fun k x2 x4 I J => F_Mo_operand_11B k4 k x2 x4 I J) (fun _ _ _ _ => none) n
noncomputable def F_Mo_operand_4B (k4 : Int32 → Int32 → sm_MI → sm_MJ → Option (sm_MI × sm_MJ)) (x2 : Int32) (x3 : Int32) (I : sm_MI) (J : sm_MJ) : Option (sm_MI × sm_MJ) :=
  if x3 = 0 then
    F_Mo_operand_60 I J
  else
    sd_q1 (F_Mo_isGood I) fun r1 =>
    if r1 = 0 then
      F_Mo_operand_60 I J
    else
      F_Mo_operand_11 k4 sd_fu x2 (0 : Int32) I J
noncomputable def F_Mo_operand_4  (n : Nat) : Int32 → Int32 → sm_MI → sm_MJ → Option (sm_MI × sm_MJ) :=
  sd_fix (fun k x2 x3 I J => F_Mo_operand_4B k x2 x3 I J) (fun _ _ _ _ => none) n
noncomputable def F_Mo_operand (x1 : Int32) (I : sm_MI) (J : sm_MJ) : Option (sm_MI × sm_MJ) :=
  F_Mo_operand_4 sd_fu x1 (1 : Int32) I J
theorem G_Mo_operand_60 {X : Nat × (Nat → Int32)} {t d D : Nat} {Q : sm_Q} {I : sm_MI} {J : sm_MJ} {Iz : sm_MI} {Jz : sm_MJ}
    (hD : 4 ≤ D) (h : F_Mo_operand_60 I J = some (Iz, Jz)) (hQ : Q (.inl none) (Iz, Jz, sm_rf t d))  : sm_W sm_sh X (sm_C sm_sh X sm_P D) me_183 Q (60, [some (.ref 61), none, none, none, none], [], 0, 0) (I, J, sm_rf t d) := by
  unfold F_Mo_operand_60 at h
  refine sm_W.run (sm_C_mono D) 1 (G := True) (fr' := (61, [some (.ref 61), none, none, none, none], [.ref 61], 0, 0)) (M' := (I, J, sm_rf t d)) rfl trivial ?_
  obtain ⟨I1, J2, hc, h⟩ := sd_q2_go h
  refine sm_W.cal (sm_C_mono D) (y := 181) (as := [.ref 61]) (fr' := (62, [some (.ref 61), none, none, none, none], [], 0, 0)) rfl (T_Mo_part (by omega) hc ?_)
  show sm_W sm_sh X (sm_C sm_sh X sm_P D) me_183 Q (62, [some (.ref 61), none, none, none, none], [], 0, 0) (I1, J2, sm_rf t d)
  cases h
  exact sm_W.ret (sm_C_mono D) rfl hQ
theorem G_Mo_operand_47 {X : Nat × (Nat → Int32)} {t d D : Nat} {Q : sm_Q} {I : sm_MI} {J : sm_MJ} {k4 : Int32 → Int32 → sm_MI → sm_MJ → Option (sm_MI × sm_MJ)} {x2 : Int32} {s0 : Int32} {Iz : sm_MI} {Jz : sm_MJ}
    (hD : 4 ≤ D) (h : F_Mo_operand_47 k4 x2 s0 I J = some (Iz, Jz)) (hQ : Q (.inl none) (Iz, Jz, sm_rf t d)) (hk4 : ∀ (x2 : Int32) (x3 : Int32) (I : sm_MI) (J : sm_MJ), k4 x2 x3 I J = some (Iz, Jz) → sm_W sm_sh X (sm_C sm_sh X sm_P D) me_183 Q (4, [some (.ref 61), none, some (.int x2), some (.int x3), none], [], 0, 0) (I, J, sm_rf t d)) : sm_W sm_sh X (sm_C sm_sh X sm_P D) me_183 Q (47, [some (.ref 61), none, some (.int x2), none, none], [.int s0], 0, 0) (I, J, sm_rf t d) := by
  unfold F_Mo_operand_47 at h
  refine sm_W.run (sm_C_mono D) 3 (G := True) (fr' := (if decide (s0 = 0) = true then 59 else 50, [some (.ref 61), none, some (.int x2), some (.int s0), none], [], 0, 0)) (M' := (I, J, sm_rf t d)) rfl trivial (sm_W.iteD h (fun hc h => ?_) (fun hc h => ?_))
  · refine sm_W.run (sm_C_mono D) 1 (G := True) (fr' := (4, [some (.ref 61), none, some (.int x2), some (.int s0), none], [], 0, 0)) (M' := (I, J, sm_rf t d)) rfl trivial ?_
    exact (hk4 _ _ _ _ h)
  · refine sm_W.run (sm_C_mono D) 2 (G := True) (fr' := (52, [some (.ref 61), none, some (.int x2), some (.int s0), none], [.int (14 : Int32), .ref 61], 0, 0)) (M' := (I, J, sm_rf t d)) rfl trivial ?_
    obtain ⟨I1, hc, h⟩ := sd_q1_go h
    refine sm_W.cal (sm_C_mono D) (y := 180) (as := [.ref 61, .int (14 : Int32)]) (fr' := (53, [some (.ref 61), none, some (.int x2), some (.int s0), none], [], 0, 0)) rfl (T_Mo_waitsFor (by omega) hc ?_)
    show sm_W sm_sh X (sm_C sm_sh X sm_P D) me_183 Q (53, [some (.ref 61), none, some (.int x2), some (.int s0), none], [], 0, 0) (I1, J, sm_rf t d)
    refine sm_W.run (sm_C_mono D) 1 (G := True) (fr' := (54, [some (.ref 61), none, some (.int x2), some (.int s0), none], [.ref 61], 0, 0)) (M' := (I1, J, sm_rf t d)) rfl trivial ?_
    obtain ⟨I2, J3, hc, h⟩ := sd_q2_go h
    refine sm_W.cal (sm_C_mono D) (y := 167) (as := [.ref 61]) (fr' := (55, [some (.ref 61), none, some (.int x2), some (.int s0), none], [], 0, 0)) rfl (T_Mo_goes (by omega) hc ?_)
    show sm_W sm_sh X (sm_C sm_sh X sm_P D) me_183 Q (55, [some (.ref 61), none, some (.int x2), some (.int s0), none], [], 0, 0) (I2, J3, sm_rf t d)
    refine sm_W.run (sm_C_mono D) 1 (G := True) (fr' := (56, [some (.ref 61), none, some (.int x2), some (.int s0), none], [.ref 61], 0, 0)) (M' := (I2, J3, sm_rf t d)) rfl trivial ?_
    obtain ⟨I4, hc, h⟩ := sd_q1_go h
    refine sm_W.cal (sm_C_mono D) (y := 182) (as := [.ref 61]) (fr' := (57, [some (.ref 61), none, some (.int x2), some (.int s0), none], [], 0, 0)) rfl (T_Mo_deeper (by omega) hc ?_)
    show sm_W sm_sh X (sm_C sm_sh X sm_P D) me_183 Q (57, [some (.ref 61), none, some (.int x2), some (.int s0), none], [], 0, 0) (I4, J3, sm_rf t d)
    refine sm_W.run (sm_C_mono D) 3 (G := True) (fr' := (4, [some (.ref 61), none, some (.int (1 : Int32)), some (.int s0), none], [], 0, 0)) (M' := (I4, J3, sm_rf t d)) rfl trivial ?_
    exact (hk4 _ _ _ _ h)
theorem G_Mo_operand_37 {X : Nat × (Nat → Int32)} {t d D : Nat} {Q : sm_Q} {I : sm_MI} {J : sm_MJ} {k4 : Int32 → Int32 → sm_MI → sm_MJ → Option (sm_MI × sm_MJ)} {x2 : Int32} {Iz : sm_MI} {Jz : sm_MJ}
    (hD : 4 ≤ D) (h : F_Mo_operand_37 k4 x2 I J = some (Iz, Jz)) (hQ : Q (.inl none) (Iz, Jz, sm_rf t d)) (hk4 : ∀ (x2 : Int32) (x3 : Int32) (I : sm_MI) (J : sm_MJ), k4 x2 x3 I J = some (Iz, Jz) → sm_W sm_sh X (sm_C sm_sh X sm_P D) me_183 Q (4, [some (.ref 61), none, some (.int x2), some (.int x3), none], [], 0, 0) (I, J, sm_rf t d)) : sm_W sm_sh X (sm_C sm_sh X sm_P D) me_183 Q (37, [some (.ref 61), none, some (.int x2), none, none], [], 0, 0) (I, J, sm_rf t d) := by
  unfold F_Mo_operand_37 at h
  refine sm_W.run (sm_C_mono D) 1 (G := True) (fr' := (38, [some (.ref 61), none, some (.int x2), none, none], [.ref 61], 0, 0)) (M' := (I, J, sm_rf t d)) rfl trivial ?_
  obtain ⟨r1, hc, h⟩ := sd_q1_go h
  refine sm_W.cal (sm_C_mono D) (y := 172) (as := [.ref 61]) (fr' := (39, [some (.ref 61), none, some (.int x2), none, none], [], 0, 0)) rfl (T_Mo_isGood (by omega) hc ?_)
  show sm_W sm_sh X (sm_C sm_sh X sm_P D) me_183 Q (39, [some (.ref 61), none, some (.int x2), none, none], [.int r1], 0, 0) (I, J, sm_rf t d)
  refine sm_W.run (sm_C_mono D) 1 (G := True) (fr' := (if decide (r1 = 0) = true then 46 else 40, [some (.ref 61), none, some (.int x2), none, none], [], 0, 0)) (M' := (I, J, sm_rf t d)) rfl trivial (sm_W.iteD h (fun hc h => ?_) (fun hc h => ?_))
  · refine sm_W.run (sm_C_mono D) 1 (G := True) (fr' := (47, [some (.ref 61), none, some (.int x2), none, none], [.int (0 : Int32)], 0, 0)) (M' := (I, J, sm_rf t d)) rfl trivial ?_
    exact (G_Mo_operand_47 hD h hQ hk4)
  · refine sm_W.run (sm_C_mono D) 2 (G := True) (fr' := (42, [some (.ref 61), none, some (.int x2), none, none], [.int (40 : Int32), .ref 61], 0, 0)) (M' := (I, J, sm_rf t d)) rfl trivial ?_
    obtain ⟨r2, hc, h⟩ := sd_q1_go h
    refine sm_W.cal (sm_C_mono D) (y := 173) (as := [.ref 61, .int (40 : Int32)]) (fr' := (43, [some (.ref 61), none, some (.int x2), none, none], [], 0, 0)) rfl (T_Mo_isSign (by omega) hc ?_)
    show sm_W sm_sh X (sm_C sm_sh X sm_P D) me_183 Q (43, [some (.ref 61), none, some (.int x2), none, none], [.int r2], 0, 0) (I, J, sm_rf t d)
    refine sm_W.run (sm_C_mono D) 1 (G := True) (fr' := (if decide (r2 = 0) = true then 46 else 44, [some (.ref 61), none, some (.int x2), none, none], [], 0, 0)) (M' := (I, J, sm_rf t d)) rfl trivial (sm_W.iteD h (fun hc h => ?_) (fun hc h => ?_))
    · refine sm_W.run (sm_C_mono D) 1 (G := True) (fr' := (47, [some (.ref 61), none, some (.int x2), none, none], [.int (0 : Int32)], 0, 0)) (M' := (I, J, sm_rf t d)) rfl trivial ?_
      exact (G_Mo_operand_47 hD h hQ hk4)
    · refine sm_W.run (sm_C_mono D) 2 (G := True) (fr' := (47, [some (.ref 61), none, some (.int x2), none, none], [.int (1 : Int32)], 0, 0)) (M' := (I, J, sm_rf t d)) rfl trivial ?_
      exact (G_Mo_operand_47 hD h hQ hk4)
theorem G_Mo_operand_26 {X : Nat × (Nat → Int32)} {t d D : Nat} {Q : sm_Q} {I : sm_MI} {J : sm_MJ} {k11 : Int32 → Int32 → sm_MI → sm_MJ → Option (sm_MI × sm_MJ)} {x2 : Int32} {x4 : Int32} {Iz : sm_MI} {Jz : sm_MJ}
    (hD : 4 ≤ D) (h : F_Mo_operand_26 k11 x2 x4 I J = some (Iz, Jz)) (hQ : Q (.inl none) (Iz, Jz, sm_rf t d)) (hk11 : ∀ (x2 : Int32) (x4 : Int32) (I : sm_MI) (J : sm_MJ), k11 x2 x4 I J = some (Iz, Jz) → sm_W sm_sh X (sm_C sm_sh X sm_P D) me_183 Q (11, [some (.ref 61), none, some (.int x2), none, some (.int x4)], [], 0, 0) (I, J, sm_rf t d)) : sm_W sm_sh X (sm_C sm_sh X sm_P D) me_183 Q (26, [some (.ref 61), none, some (.int x2), none, some (.int x4)], [], 0, 0) (I, J, sm_rf t d) := by
  unfold F_Mo_operand_26 at h
  refine sm_W.run (sm_C_mono D) 2 (G := True) (fr' := (28, [some (.ref 61), none, some (.int x2), none, some (.int (x4 + (1 : Int32)))], [.ref 61], 0, 0)) (M' := (I, J, sm_rf t d)) rfl trivial ?_
  obtain ⟨r1, hc, h⟩ := sd_q1_go h
  refine sm_W.cal (sm_C_mono D) (y := 172) (as := [.ref 61]) (fr' := (29, [some (.ref 61), none, some (.int x2), none, some (.int (x4 + (1 : Int32)))], [], 0, 0)) rfl (T_Mo_isGood (by omega) hc ?_)
  show sm_W sm_sh X (sm_C sm_sh X sm_P D) me_183 Q (29, [some (.ref 61), none, some (.int x2), none, some (.int (x4 + (1 : Int32)))], [.int r1], 0, 0) (I, J, sm_rf t d)
  refine sm_W.run (sm_C_mono D) 1 (G := True) (fr' := (if decide (¬ r1 = 0) = true then 31 else 30, [some (.ref 61), none, some (.int x2), none, some (.int (x4 + (1 : Int32)))], [], 0, 0)) (M' := (I, J, sm_rf t d)) rfl trivial (sm_W.iteD h (fun hc h => ?_) (fun hc h => ?_))
  · refine sm_W.run (sm_C_mono D) 2 (G := True) (fr' := (33, [some (.ref 61), none, some (.int x2), none, some (.int (x4 + (1 : Int32)))], [.int (3 : Int32), .ref 61], 0, 0)) (M' := (I, J, sm_rf t d)) rfl trivial ?_
    obtain ⟨I2, hc, h⟩ := sd_q1_go h
    refine sm_W.cal (sm_C_mono D) (y := 180) (as := [.ref 61, .int (3 : Int32)]) (fr' := (34, [some (.ref 61), none, some (.int x2), none, some (.int (x4 + (1 : Int32)))], [], 0, 0)) rfl (T_Mo_waitsFor (by omega) hc ?_)
    show sm_W sm_sh X (sm_C sm_sh X sm_P D) me_183 Q (34, [some (.ref 61), none, some (.int x2), none, some (.int (x4 + (1 : Int32)))], [], 0, 0) (I2, J, sm_rf t d)
    refine sm_W.run (sm_C_mono D) 1 (G := True) (fr' := (35, [some (.ref 61), none, some (.int x2), none, some (.int (x4 + (1 : Int32)))], [.ref 61], 0, 0)) (M' := (I2, J, sm_rf t d)) rfl trivial ?_
    obtain ⟨I3, J4, hc, h⟩ := sd_q2_go h
    refine sm_W.cal (sm_C_mono D) (y := 167) (as := [.ref 61]) (fr' := (36, [some (.ref 61), none, some (.int x2), none, some (.int (x4 + (1 : Int32)))], [], 0, 0)) rfl (T_Mo_goes (by omega) hc ?_)
    show sm_W sm_sh X (sm_C sm_sh X sm_P D) me_183 Q (36, [some (.ref 61), none, some (.int x2), none, some (.int (x4 + (1 : Int32)))], [], 0, 0) (I3, J4, sm_rf t d)
    refine sm_W.run (sm_C_mono D) 1 (G := True) (fr' := (11, [some (.ref 61), none, some (.int x2), none, some (.int (x4 + (1 : Int32)))], [], 0, 0)) (M' := (I3, J4, sm_rf t d)) rfl trivial ?_
    exact (hk11 _ _ _ _ h)
  · refine sm_W.run (sm_C_mono D) 1 (G := True) (fr' := (11, [some (.ref 61), none, some (.int x2), none, some (.int (x4 + (1 : Int32)))], [], 0, 0)) (M' := (I, J, sm_rf t d)) rfl trivial ?_
    exact (hk11 _ _ _ _ h)
theorem G_Mo_operand_11B {X : Nat × (Nat → Int32)} {t d D : Nat} {Q : sm_Q} {I : sm_MI} {J : sm_MJ} {k4 : Int32 → Int32 → sm_MI → sm_MJ → Option (sm_MI × sm_MJ)} {k11 : Int32 → Int32 → sm_MI → sm_MJ → Option (sm_MI × sm_MJ)} {x2 : Int32} {x4 : Int32} {Iz : sm_MI} {Jz : sm_MJ}
    (hD : 4 ≤ D) (h : F_Mo_operand_11B k4 k11 x2 x4 I J = some (Iz, Jz)) (hQ : Q (.inl none) (Iz, Jz, sm_rf t d)) (hk4 : ∀ (x2 : Int32) (x3 : Int32) (I : sm_MI) (J : sm_MJ), k4 x2 x3 I J = some (Iz, Jz) → sm_W sm_sh X (sm_C sm_sh X sm_P D) me_183 Q (4, [some (.ref 61), none, some (.int x2), some (.int x3), none], [], 0, 0) (I, J, sm_rf t d)) (hk11 : ∀ (x2 : Int32) (x4 : Int32) (I : sm_MI) (J : sm_MJ), k11 x2 x4 I J = some (Iz, Jz) → sm_W sm_sh X (sm_C sm_sh X sm_P D) me_183 Q (11, [some (.ref 61), none, some (.int x2), none, some (.int x4)], [], 0, 0) (I, J, sm_rf t d)) : sm_W sm_sh X (sm_C sm_sh X sm_P D) me_183 Q (11, [some (.ref 61), none, some (.int x2), none, some (.int x4)], [], 0, 0) (I, J, sm_rf t d) := by
  unfold F_Mo_operand_11B at h
  refine sm_W.run (sm_C_mono D) 1 (G := True) (fr' := (12, [some (.ref 61), none, some (.int x2), none, some (.int x4)], [.ref 61], 0, 0)) (M' := (I, J, sm_rf t d)) rfl trivial ?_
  obtain ⟨r1, hc, h⟩ := sd_q1_go h
  refine sm_W.cal (sm_C_mono D) (y := 172) (as := [.ref 61]) (fr' := (13, [some (.ref 61), none, some (.int x2), none, some (.int x4)], [], 0, 0)) rfl (T_Mo_isGood (by omega) hc ?_)
  show sm_W sm_sh X (sm_C sm_sh X sm_P D) me_183 Q (13, [some (.ref 61), none, some (.int x2), none, some (.int x4)], [.int r1], 0, 0) (I, J, sm_rf t d)
  refine sm_W.run (sm_C_mono D) 1 (G := True) (fr' := (if decide (r1 = 0) = true then 37 else 14, [some (.ref 61), none, some (.int x2), none, some (.int x4)], [], 0, 0)) (M' := (I, J, sm_rf t d)) rfl trivial (sm_W.iteD h (fun hc h => ?_) (fun hc h => ?_))
  · exact sm_W.forget (L' := [some (.ref 61), none, some (.int x2), none, none]) ⟨rfl, ⟨rfl, trivial⟩⟩ (G_Mo_operand_37 hD h hQ hk4)
  · refine sm_W.run (sm_C_mono D) 2 (G := True) (fr' := (if decide (x2 = 0) = true then 37 else 16, [some (.ref 61), none, some (.int x2), none, some (.int x4)], [], 0, 0)) (M' := (I, J, sm_rf t d)) rfl trivial (sm_W.iteD h (fun hc h => ?_) (fun hc h => ?_))
    · exact sm_W.forget (L' := [some (.ref 61), none, some (.int x2), none, none]) ⟨rfl, ⟨rfl, trivial⟩⟩ (G_Mo_operand_37 hD h hQ hk4)
    · refine sm_W.run (sm_C_mono D) 1 (G := True) (fr' := (17, [some (.ref 61), none, some (.int x2), none, some (.int x4)], [.ref 61], 0, 0)) (M' := (I, J, sm_rf t d)) rfl trivial ?_
      obtain ⟨r2, hc, h⟩ := sd_q1_go h
      refine sm_W.cal (sm_C_mono D) (y := 170) (as := [.ref 61]) (fr' := (18, [some (.ref 61), none, some (.int x2), none, some (.int x4)], [], 0, 0)) rfl (T_Mo_knownWord (by omega) hc ?_)
      show sm_W sm_sh X (sm_C sm_sh X sm_P D) me_183 Q (18, [some (.ref 61), none, some (.int x2), none, some (.int x4)], [.int r2], 0, 0) (I, J, sm_rf t d)
      refine sm_W.run (sm_C_mono D) 2 (G := True) (fr' := (if decide (¬ r2 = (23 : Int32)) = true then 37 else 20, [some (.ref 61), none, some (.int x2), none, some (.int x4)], [], 0, 0)) (M' := (I, J, sm_rf t d)) rfl trivial (sm_W.iteD h (fun hc h => ?_) (fun hc h => ?_))
      · exact sm_W.forget (L' := [some (.ref 61), none, some (.int x2), none, none]) ⟨rfl, ⟨rfl, trivial⟩⟩ (G_Mo_operand_37 hD h hQ hk4)
      · refine sm_W.run (sm_C_mono D) 3 (G := True) (fr' := (if decide (¬ x4 = (6 : Int32)) = true then 26 else 23, [some (.ref 61), none, some (.int x2), none, some (.int x4)], [], 0, 0)) (M' := (I, J, sm_rf t d)) rfl trivial (sm_W.iteD h (fun hc h => ?_) (fun hc h => ?_))
        · exact (G_Mo_operand_26 hD h hQ hk11)
        · refine sm_W.run (sm_C_mono D) 2 (G := True) (fr' := (25, [some (.ref 61), none, some (.int x2), none, some (.int x4)], [.int (2 : Int32), .ref 61], 0, 0)) (M' := (I, J, sm_rf t d)) rfl trivial ?_
          obtain ⟨I3, hc, h⟩ := sd_q1_go h
          refine sm_W.cal (sm_C_mono D) (y := 171) (as := [.ref 61, .int (2 : Int32)]) (fr' := (26, [some (.ref 61), none, some (.int x2), none, some (.int x4)], [], 0, 0)) rfl (T_Mo_wrong (by omega) hc ?_)
          show sm_W sm_sh X (sm_C sm_sh X sm_P D) me_183 Q (26, [some (.ref 61), none, some (.int x2), none, some (.int x4)], [], 0, 0) (I3, J, sm_rf t d)
          exact (G_Mo_operand_26 hD h hQ hk11)
theorem G_Mo_operand_11 {X : Nat × (Nat → Int32)} {t d D : Nat} {Q : sm_Q} {k4 : Int32 → Int32 → sm_MI → sm_MJ → Option (sm_MI × sm_MJ)} {Iz : sm_MI} {Jz : sm_MJ}
    (hD : 4 ≤ D) (hQ : Q (.inl none) (Iz, Jz, sm_rf t d)) (hk4 : ∀ (x2 : Int32) (x3 : Int32) (I : sm_MI) (J : sm_MJ), k4 x2 x3 I J = some (Iz, Jz) → sm_W sm_sh X (sm_C sm_sh X sm_P D) me_183 Q (4, [some (.ref 61), none, some (.int x2), some (.int x3), none], [], 0, 0) (I, J, sm_rf t d)) : ∀ (n : Nat) (x2 : Int32) (x4 : Int32) (I : sm_MI) (J : sm_MJ), F_Mo_operand_11 k4 n x2 x4 I J = some (Iz, Jz) → sm_W sm_sh X (sm_C sm_sh X sm_P D) me_183 Q (11, [some (.ref 61), none, some (.int x2), none, some (.int x4)], [], 0, 0) (I, J, sm_rf t d) := by
  intro n
  induction n with
  | zero => intro x2 x4 I J h; cases (show (none : Option (sm_MI × sm_MJ)) = some (Iz, Jz) from h)
  | succ n ih => intro x2 x4 I J h; exact G_Mo_operand_11B hD (show F_Mo_operand_11B k4 (F_Mo_operand_11 k4 n) x2 x4 I J = some (Iz, Jz) from h) hQ hk4 ih
theorem G_Mo_operand_4B {X : Nat × (Nat → Int32)} {t d D : Nat} {Q : sm_Q} {I : sm_MI} {J : sm_MJ} {k4 : Int32 → Int32 → sm_MI → sm_MJ → Option (sm_MI × sm_MJ)} {x2 : Int32} {x3 : Int32} {Iz : sm_MI} {Jz : sm_MJ}
    (hD : 4 ≤ D) (h : F_Mo_operand_4B k4 x2 x3 I J = some (Iz, Jz)) (hQ : Q (.inl none) (Iz, Jz, sm_rf t d)) (hk4 : ∀ (x2 : Int32) (x3 : Int32) (I : sm_MI) (J : sm_MJ), k4 x2 x3 I J = some (Iz, Jz) → sm_W sm_sh X (sm_C sm_sh X sm_P D) me_183 Q (4, [some (.ref 61), none, some (.int x2), some (.int x3), none], [], 0, 0) (I, J, sm_rf t d)) : sm_W sm_sh X (sm_C sm_sh X sm_P D) me_183 Q (4, [some (.ref 61), none, some (.int x2), some (.int x3), none], [], 0, 0) (I, J, sm_rf t d) := by
  unfold F_Mo_operand_4B at h
  refine sm_W.run (sm_C_mono D) 2 (G := True) (fr' := (if decide (x3 = 0) = true then 60 else 6, [some (.ref 61), none, some (.int x2), some (.int x3), none], [], 0, 0)) (M' := (I, J, sm_rf t d)) rfl trivial (sm_W.iteD h (fun hc h => ?_) (fun hc h => ?_))
  · exact sm_W.forget (L' := [some (.ref 61), none, none, none, none]) ⟨rfl, trivial⟩ (G_Mo_operand_60 hD h hQ)
  · refine sm_W.run (sm_C_mono D) 1 (G := True) (fr' := (7, [some (.ref 61), none, some (.int x2), some (.int x3), none], [.ref 61], 0, 0)) (M' := (I, J, sm_rf t d)) rfl trivial ?_
    obtain ⟨r1, hc, h⟩ := sd_q1_go h
    refine sm_W.cal (sm_C_mono D) (y := 172) (as := [.ref 61]) (fr' := (8, [some (.ref 61), none, some (.int x2), some (.int x3), none], [], 0, 0)) rfl (T_Mo_isGood (by omega) hc ?_)
    show sm_W sm_sh X (sm_C sm_sh X sm_P D) me_183 Q (8, [some (.ref 61), none, some (.int x2), some (.int x3), none], [.int r1], 0, 0) (I, J, sm_rf t d)
    refine sm_W.run (sm_C_mono D) 1 (G := True) (fr' := (if decide (r1 = 0) = true then 60 else 9, [some (.ref 61), none, some (.int x2), some (.int x3), none], [], 0, 0)) (M' := (I, J, sm_rf t d)) rfl trivial (sm_W.iteD h (fun hc h => ?_) (fun hc h => ?_))
    · exact sm_W.forget (L' := [some (.ref 61), none, none, none, none]) ⟨rfl, trivial⟩ (G_Mo_operand_60 hD h hQ)
    · refine sm_W.run (sm_C_mono D) 2 (G := True) (fr' := (11, [some (.ref 61), none, some (.int x2), some (.int x3), some (.int (0 : Int32))], [], 0, 0)) (M' := (I, J, sm_rf t d)) rfl trivial ?_
      exact sm_W.forget (L' := [some (.ref 61), none, some (.int x2), none, some (.int (0 : Int32))]) ⟨rfl, ⟨rfl, ⟨rfl, trivial⟩⟩⟩ (G_Mo_operand_11 hD hQ hk4 sd_fu _ _ _ _ h)
theorem G_Mo_operand_4 {X : Nat × (Nat → Int32)} {t d D : Nat} {Q : sm_Q} {Iz : sm_MI} {Jz : sm_MJ}
    (hD : 4 ≤ D) (hQ : Q (.inl none) (Iz, Jz, sm_rf t d))  : ∀ (n : Nat) (x2 : Int32) (x3 : Int32) (I : sm_MI) (J : sm_MJ), F_Mo_operand_4 n x2 x3 I J = some (Iz, Jz) → sm_W sm_sh X (sm_C sm_sh X sm_P D) me_183 Q (4, [some (.ref 61), none, some (.int x2), some (.int x3), none], [], 0, 0) (I, J, sm_rf t d) := by
  intro n
  induction n with
  | zero => intro x2 x3 I J h; cases (show (none : Option (sm_MI × sm_MJ)) = some (Iz, Jz) from h)
  | succ n ih => intro x2 x3 I J h; exact G_Mo_operand_4B hD (show F_Mo_operand_4B (F_Mo_operand_4 n) x2 x3 I J = some (Iz, Jz) from h) hQ  ih
theorem G_Mo_operand {X : Nat × (Nat → Int32)} {t d D : Nat} {Q : sm_Q} {I : sm_MI} {J : sm_MJ} {x1 : Int32} {Iz : sm_MI} {Jz : sm_MJ}
    (hD : 4 ≤ D) (h : F_Mo_operand x1 I J = some (Iz, Jz)) (hQ : Q (.inl none) (Iz, Jz, sm_rf t d))  : sm_W sm_sh X (sm_C sm_sh X sm_P D) me_183 Q (0, [some (.ref 61), some (.int x1), none, none, none], [], 0, 0) (I, J, sm_rf t d) := by
  unfold F_Mo_operand at h
  refine sm_W.run (sm_C_mono D) 4 (G := True) (fr' := (4, [some (.ref 61), some (.int x1), some (.int x1), some (.int (1 : Int32)), none], [], 0, 0)) (M' := (I, J, sm_rf t d)) rfl trivial ?_
  exact sm_W.forget (L' := [some (.ref 61), none, some (.int x1), some (.int (1 : Int32)), none]) ⟨rfl, ⟨rfl, ⟨rfl, trivial⟩⟩⟩ (G_Mo_operand_4 hD hQ sd_fu _ _ _ _ h)
theorem T_Mo_operand {X : Nat × (Nat → Int32)} {t d D : Nat} {Q : sm_Q} {I : sm_MI} {J : sm_MJ} {x1 : Int32} {Iz : sm_MI} {Jz : sm_MJ}
    (hD : 5 ≤ D) (h : F_Mo_operand x1 I J = some (Iz, Jz)) (hQ : Q (.inl none) (Iz, Jz, sm_rf t d)) : sm_C sm_sh X sm_P D 183 [.ref 61, .int x1] (I, J, sm_rf t d) Q := by
  cases D with
  | zero => omega
  | succ D => exact sm_C.of (me := me_183) (L := [some (.ref 61), some (.int x1), none, none, none]) rfl rfl rfl (sm_W.forget (L' := [some (.ref 61), some (.int x1), none, none, none]) ⟨rfl, ⟨rfl, trivial⟩⟩ (G_Mo_operand (by omega) h hQ))
-- 184 Mo_isOpened
noncomputable def F_Mo_isOpened_15 (x1 : Int32) (I : sm_MI) : Option (Int32) :=
  if x1 < 0 then
    some ((0 : Int32))
  else
    some ((1 : Int32))
noncomputable def F_Mo_isOpened_5B (k5 : Int32 → Option (Int32)) (x1 : Int32) (I : sm_MI) : Option (Int32) :=
  if x1 < 0 then
    F_Mo_isOpened_15 x1 I
  else
    sd_gu (sm_in x1 950 = true) <|
    sd_q1 (F_Mo_isOpen (I 84 (Int32.toNatClampNeg x1))) fun r2 =>
    if ¬ r2 = 0 then
      F_Mo_isOpened_15 x1 I
    else
      k5 (x1 + (-1 : Int32))
noncomputable def F_Mo_isOpened_5 (I : sm_MI) (n : Nat) : Int32 → Option (Int32) :=
  sd_fix (fun k x1 => F_Mo_isOpened_5B k x1 I) (fun _ => none) n
noncomputable def F_Mo_isOpened (I : sm_MI) : Option (Int32) :=
  sd_lt ((I 61 33) - (1 : Int32)) fun a1 =>
  F_Mo_isOpened_5 I sd_fu a1
theorem G_Mo_isOpened_15 {X : Nat × (Nat → Int32)} {t d D : Nat} {Q : sm_Q} {I : sm_MI} {J : sm_MJ} {x1 : Int32} {rz : Int32}
    (hD : 1 ≤ D) (h : F_Mo_isOpened_15 x1 I = some (rz)) (hQ : Q (.inl (some (.int rz))) (I, J, sm_rf t d))  : sm_W sm_sh X (sm_C sm_sh X sm_P D) me_184 Q (15, [none, some (.int x1)], [], 0, 0) (I, J, sm_rf t d) := by
  unfold F_Mo_isOpened_15 at h
  refine sm_W.run (sm_C_mono D) 2 (G := True) (fr' := (if decide (x1 < 0) = true then 19 else 17, [none, some (.int x1)], [], 0, 0)) (M' := (I, J, sm_rf t d)) rfl trivial (sm_W.iteD h (fun hc h => ?_) (fun hc h => ?_))
  · refine sm_W.run (sm_C_mono D) 1 (G := True) (fr' := (20, [none, some (.int x1)], [.int (0 : Int32)], 0, 0)) (M' := (I, J, sm_rf t d)) rfl trivial ?_
    cases h
    exact sm_W.ret (sm_C_mono D) rfl hQ
  · refine sm_W.run (sm_C_mono D) 2 (G := True) (fr' := (20, [none, some (.int x1)], [.int (1 : Int32)], 0, 0)) (M' := (I, J, sm_rf t d)) rfl trivial ?_
    cases h
    exact sm_W.ret (sm_C_mono D) rfl hQ
theorem G_Mo_isOpened_5B {X : Nat × (Nat → Int32)} {t d D : Nat} {Q : sm_Q} {I : sm_MI} {J : sm_MJ} {k5 : Int32 → Option (Int32)} {x1 : Int32} {rz : Int32}
    (hD : 1 ≤ D) (h : F_Mo_isOpened_5B k5 x1 I = some (rz)) (hQ : Q (.inl (some (.int rz))) (I, J, sm_rf t d)) (hk5 : ∀ (x1 : Int32), k5 x1 = some (rz) → sm_W sm_sh X (sm_C sm_sh X sm_P D) me_184 Q (5, [some (.ref 61), some (.int x1)], [], 0, 0) (I, J, sm_rf t d)) : sm_W sm_sh X (sm_C sm_sh X sm_P D) me_184 Q (5, [some (.ref 61), some (.int x1)], [], 0, 0) (I, J, sm_rf t d) := by
  unfold F_Mo_isOpened_5B at h
  refine sm_W.run (sm_C_mono D) 2 (G := True) (fr' := (if decide (x1 < 0) = true then 15 else 7, [some (.ref 61), some (.int x1)], [], 0, 0)) (M' := (I, J, sm_rf t d)) rfl trivial (sm_W.iteD h (fun hc h => ?_) (fun hc h => ?_))
  · exact sm_W.forget (L' := [none, some (.int x1)]) ⟨rfl, trivial⟩ (G_Mo_isOpened_15 hD h hQ)
  · obtain ⟨g1, h⟩ := sd_gu_go h
    refine sm_W.run (sm_C_mono D) 4 (G := sm_in x1 950 = true ∧ True) (fr' := (11, [some (.ref 61), some (.int x1)], [.int (I 84 (Int32.toNatClampNeg x1))], 0, 0)) (M' := (I, J, sm_rf t d)) rfl ⟨g1, trivial⟩ ?_
    obtain ⟨r2, hc, h⟩ := sd_q1_go h
    refine sm_W.cal (sm_C_mono D) (y := 177) (as := [.int (I 84 (Int32.toNatClampNeg x1))]) (fr' := (12, [some (.ref 61), some (.int x1)], [], 0, 0)) rfl (T_Mo_isOpen (by omega) hc ?_)
    show sm_W sm_sh X (sm_C sm_sh X sm_P D) me_184 Q (12, [some (.ref 61), some (.int x1)], [.int r2], 0, 0) (I, J, sm_rf t d)
    refine sm_W.run (sm_C_mono D) 1 (G := True) (fr' := (if decide (¬ r2 = 0) = true then 15 else 13, [some (.ref 61), some (.int x1)], [], 0, 0)) (M' := (I, J, sm_rf t d)) rfl trivial (sm_W.iteD h (fun hc h => ?_) (fun hc h => ?_))
    · exact sm_W.forget (L' := [none, some (.int x1)]) ⟨rfl, trivial⟩ (G_Mo_isOpened_15 hD h hQ)
    · refine sm_W.run (sm_C_mono D) 2 (G := True) (fr' := (5, [some (.ref 61), some (.int (x1 + (-1 : Int32)))], [], 0, 0)) (M' := (I, J, sm_rf t d)) rfl trivial ?_
      exact (hk5 _ h)
theorem G_Mo_isOpened_5 {X : Nat × (Nat → Int32)} {t d D : Nat} {Q : sm_Q} {I : sm_MI} {J : sm_MJ} {rz : Int32}
    (hD : 1 ≤ D) (hQ : Q (.inl (some (.int rz))) (I, J, sm_rf t d))  : ∀ (n : Nat) (x1 : Int32), F_Mo_isOpened_5 I n x1 = some (rz) → sm_W sm_sh X (sm_C sm_sh X sm_P D) me_184 Q (5, [some (.ref 61), some (.int x1)], [], 0, 0) (I, J, sm_rf t d) := by
  intro n
  induction n with
  | zero => intro x1 h; cases (show (none : Option (Int32)) = some (rz) from h)
  | succ n ih => intro x1 h; exact G_Mo_isOpened_5B hD (show F_Mo_isOpened_5B (F_Mo_isOpened_5 I n) x1 I = some (rz) from h) hQ  ih
theorem G_Mo_isOpened {X : Nat × (Nat → Int32)} {t d D : Nat} {Q : sm_Q} {I : sm_MI} {J : sm_MJ} {rz : Int32}
    (hD : 1 ≤ D) (h : F_Mo_isOpened I = some (rz)) (hQ : Q (.inl (some (.int rz))) (I, J, sm_rf t d))  : sm_W sm_sh X (sm_C sm_sh X sm_P D) me_184 Q (0, [some (.ref 61), none], [], 0, 0) (I, J, sm_rf t d) := by
  unfold F_Mo_isOpened at h
  refine sm_W.runL (sm_C_mono D) 5 (G := True) (e := ((I 61 33) - (1 : Int32))) (fr' := fun a1 => (5, [some (.ref 61), some (.int a1)], [], 0, 0)) (M' := fun _ => (I, J, sm_rf t d)) rfl h trivial (fun a1 h => ?_)
  exact (G_Mo_isOpened_5 hD hQ sd_fu _ h)
theorem T_Mo_isOpened {X : Nat × (Nat → Int32)} {t d D : Nat} {Q : sm_Q} {I : sm_MI} {J : sm_MJ} {rz : Int32}
    (hD : 2 ≤ D) (h : F_Mo_isOpened I = some (rz)) (hQ : Q (.inl (some (.int rz))) (I, J, sm_rf t d)) : sm_C sm_sh X sm_P D 184 [.ref 61] (I, J, sm_rf t d) Q := by
  cases D with
  | zero => omega
  | succ D => exact sm_C.of (me := me_184) (L := [some (.ref 61), none]) rfl rfl rfl (sm_W.forget (L' := [some (.ref 61), none]) ⟨rfl, trivial⟩ (G_Mo_isOpened (by omega) h hQ))
-- 185 Mo_closes
noncomputable def F_Mo_closes (I : sm_MI) (J : sm_MJ) : Option (sm_MI × sm_MJ) :=
  sd_q1 (F_Mo_drops (0 : Int32) I) fun I1 =>
  sd_lt (sd_up I1 61 33 ((I1 61 33) - (1 : Int32))) fun I2 =>
  sd_lt (sd_up I2 61 34 ((I2 61 34) - (1 : Int32))) fun I3 =>
  sd_q2 (F_Mo_goes I3 J) fun I4 J5 =>
  some (I4, J5)
theorem G_Mo_closes {X : Nat × (Nat → Int32)} {t d D : Nat} {Q : sm_Q} {I : sm_MI} {J : sm_MJ} {Iz : sm_MI} {Jz : sm_MJ}
    (hD : 2 ≤ D) (h : F_Mo_closes I J = some (Iz, Jz)) (hQ : Q (.inl none) (Iz, Jz, sm_rf t d))  : sm_W sm_sh X (sm_C sm_sh X sm_P D) me_185 Q (0, [some (.ref 61)], [], 0, 0) (I, J, sm_rf t d) := by
  unfold F_Mo_closes at h
  refine sm_W.run (sm_C_mono D) 2 (G := True) (fr' := (2, [some (.ref 61)], [.int (0 : Int32), .ref 61], 0, 0)) (M' := (I, J, sm_rf t d)) rfl trivial ?_
  obtain ⟨I1, hc, h⟩ := sd_q1_go h
  refine sm_W.cal (sm_C_mono D) (y := 179) (as := [.ref 61, .int (0 : Int32)]) (fr' := (3, [some (.ref 61)], [], 0, 0)) rfl (T_Mo_drops (by omega) hc ?_)
  show sm_W sm_sh X (sm_C sm_sh X sm_P D) me_185 Q (3, [some (.ref 61)], [], 0, 0) (I1, J, sm_rf t d)
  refine sm_W.runL (sm_C_mono D) 6 (G := True) (e := (sd_up I1 61 33 ((I1 61 33) - (1 : Int32)))) (fr' := fun _ => (9, [some (.ref 61)], [], 0, 0)) (M' := fun I2 => (I2, J, sm_rf t d)) rfl h trivial (fun I2 h => ?_)
  refine sm_W.runL (sm_C_mono D) 6 (G := True) (e := (sd_up I2 61 34 ((I2 61 34) - (1 : Int32)))) (fr' := fun _ => (15, [some (.ref 61)], [], 0, 0)) (M' := fun I3 => (I3, J, sm_rf t d)) rfl h trivial (fun I3 h => ?_)
  refine sm_W.run (sm_C_mono D) 1 (G := True) (fr' := (16, [some (.ref 61)], [.ref 61], 0, 0)) (M' := (I3, J, sm_rf t d)) rfl trivial ?_
  obtain ⟨I4, J5, hc, h⟩ := sd_q2_go h
  refine sm_W.cal (sm_C_mono D) (y := 167) (as := [.ref 61]) (fr' := (17, [some (.ref 61)], [], 0, 0)) rfl (T_Mo_goes (by omega) hc ?_)
  show sm_W sm_sh X (sm_C sm_sh X sm_P D) me_185 Q (17, [some (.ref 61)], [], 0, 0) (I4, J5, sm_rf t d)
  cases h
  exact sm_W.ret (sm_C_mono D) rfl hQ
theorem T_Mo_closes {X : Nat × (Nat → Int32)} {t d D : Nat} {Q : sm_Q} {I : sm_MI} {J : sm_MJ} {Iz : sm_MI} {Jz : sm_MJ}
    (hD : 3 ≤ D) (h : F_Mo_closes I J = some (Iz, Jz)) (hQ : Q (.inl none) (Iz, Jz, sm_rf t d)) : sm_C sm_sh X sm_P D 185 [.ref 61] (I, J, sm_rf t d) Q := by
  cases D with
  | zero => omega
  | succ D => exact sm_C.of (me := me_185) (L := [some (.ref 61)]) rfl rfl rfl (sm_W.forget (L' := [some (.ref 61)]) ⟨rfl, trivial⟩ (G_Mo_closes (by omega) h hQ))
