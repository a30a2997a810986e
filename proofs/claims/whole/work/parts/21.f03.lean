/-! ===== printed by wip/gen/emit_parts.py: what the methods compute ===== -/
-- 13 Choir_canBeSungAt
noncomputable def F_Choir_canBeSungAt_4B (p0 : Nat) (k4 : Int32 → Int32 → Int32 → Int32 → Int32 → Option (Int32)) (x1 : Int32) (x2 : Int32) (x3 : Int32) (x4 : Int32) (x5 : Int32) (I : sm_MI) : Option (Int32) :=
  if (4 : Int32) ≤ x5 then
    some ((vp_nar .boolean x4))
  else
    sd_lt ((x2 * (4 : Int32)) + x5) fun a1 =>
    sd_gu (sm_in a1 20 = true) <|
    if (I (p0 + 6) (Int32.toNatClampNeg a1)) ≤ 0 then
      k4 x1 x2 x3 x4 (x5 + (1 : Int32))
    else
      sd_gu (sm_in a1 20 = true) <|
      sd_lt ((I (p0 + 9) (Int32.toNatClampNeg a1)) + x3) fun a4 =>
      sd_gu (sm_in a1 20 = true) <|
      sd_lt ((I (p0 + 10) (Int32.toNatClampNeg a1)) + x3) fun a6 =>
      sd_q1 (F_Valley_ofPart p0 x5 I) fun r7 =>
      sd_q1 (F_Valley_reaching p0 (r7 &&& x1) a4 a6 I) fun r8 =>
      if a4 < 0 then
        some ((0 : Int32))
      else
        if (48 : Int32) < a6 then
          some ((0 : Int32))
        else
          sd_q1 (F_Int_bitCount r8) fun r9 =>
          sd_gu (sm_in a1 20 = true) <|
          if (I (p0 + 6) (Int32.toNatClampNeg a1)) ≤ r9 then
            k4 x1 x2 x3 (1 : Int32) (x5 + (1 : Int32))
          else
            some ((0 : Int32))
noncomputable def F_Choir_canBeSungAt_4 (p0 : Nat) (I : sm_MI) (n : Nat) : Int32 → Int32 → Int32 → Int32 → Int32 → Option (Int32) :=
  sd_fix (fun k x1 x2 x3 x4 x5 => F_Choir_canBeSungAt_4B p0 k x1 x2 x3 x4 x5 I) (fun _ _ _ _ _ => none) n
noncomputable def F_Choir_canBeSungAt (p0 : Nat) (x1 : Int32) (x2 : Int32) (x3 : Int32) (I : sm_MI) : Option (Int32) :=
  F_Choir_canBeSungAt_4 p0 I sd_fu x1 x2 x3 (0 : Int32) (0 : Int32)
theorem G_Choir_canBeSungAt_4B {X : Nat × (Nat → Int32)} {t d D : Nat} {Q : sm_Q} {I : sm_MI} {J : sm_MJ} {p0 : Nat} {k4 : Int32 → Int32 → Int32 → Int32 → Int32 → Option (Int32)} {x1 : Int32} {x2 : Int32} {x3 : Int32} {x4 : Int32} {x5 : Int32} {rz : Int32}
    (hD : 1 ≤ D) (hp : (p0 = 21) ∨ (p0 = 41)) (h : F_Choir_canBeSungAt_4B p0 k4 x1 x2 x3 x4 x5 I = some (rz)) (hQ : Q (.inl (some (.int rz))) (I, J, sm_rf t d)) (hk4 : ∀ (x1 : Int32) (x2 : Int32) (x3 : Int32) (x4 : Int32) (x5 : Int32), k4 x1 x2 x3 x4 x5 = some (rz) → sm_W sm_sh X (sm_C sm_sh X sm_P D) me_13 Q (4, [some (.ref p0), some (.int x1), some (.int x2), some (.int x3), some (.int x4), some (.int x5), none, none, none, none], [], 0, 0) (I, J, sm_rf t d)) : sm_W sm_sh X (sm_C sm_sh X sm_P D) me_13 Q (4, [some (.ref p0), some (.int x1), some (.int x2), some (.int x3), some (.int x4), some (.int x5), none, none, none, none], [], 0, 0) (I, J, sm_rf t d) := by
  unfold F_Choir_canBeSungAt_4B at h
  rcases hp with rfl | rfl
  · skip
    refine sm_W.run (sm_C_mono D) 3 (G := True) (fr' := (if decide ((4 : Int32) ≤ x5) = true then 60 else 7, [some (.ref 21), some (.int x1), some (.int x2), some (.int x3), some (.int x4), some (.int x5), none, none, none, none], [], 0, 0)) (M' := (I, J, sm_rf t d)) rfl trivial (sm_W.iteD h (fun hc h => ?_) (fun hc h => ?_))
    · refine sm_W.run (sm_C_mono D) 1 (G := True) (fr' := (61, [some (.ref 21), some (.int x1), some (.int x2), some (.int x3), some (.int x4), some (.int x5), none, none, none, none], [.int x4], 0, 0)) (M' := (I, J, sm_rf t d)) rfl trivial ?_
      cases h
      exact sm_W.ret (sm_C_mono D) rfl hQ
    · refine sm_W.runL (sm_C_mono D) 6 (G := True) (e := ((x2 * (4 : Int32)) + x5)) (fr' := fun a1 => (13, [some (.ref 21), some (.int x1), some (.int x2), some (.int x3), some (.int x4), some (.int x5), some (.int a1), none, none, none], [], 0, 0)) (M' := fun _ => (I, J, sm_rf t d)) rfl h trivial (fun a1 h => ?_)
      obtain ⟨g2, h⟩ := sd_gu_go h
      refine sm_W.run (sm_C_mono D) 5 (G := sm_in a1 20 = true ∧ True) (fr' := (if decide ((I (21 + 6) (Int32.toNatClampNeg a1)) ≤ 0) = true then 58 else 18, [some (.ref 21), some (.int x1), some (.int x2), some (.int x3), some (.int x4), some (.int x5), some (.int a1), none, none, none], [], 0, 0)) (M' := (I, J, sm_rf t d)) rfl ⟨g2, trivial⟩ (sm_W.iteD h (fun hc h => ?_) (fun hc h => ?_))
      · refine sm_W.run (sm_C_mono D) 2 (G := True) (fr' := (4, [some (.ref 21), some (.int x1), some (.int x2), some (.int x3), some (.int x4), some (.int (x5 + (1 : Int32))), some (.int a1), none, none, none], [], 0, 0)) (M' := (I, J, sm_rf t d)) rfl trivial ?_
        exact sm_W.forget (L' := [some (.ref 21), some (.int x1), some (.int x2), some (.int x3), some (.int x4), some (.int (x5 + (1 : Int32))), none, none, none, none]) ⟨rfl, ⟨rfl, ⟨rfl, ⟨rfl, ⟨rfl, ⟨rfl, trivial⟩⟩⟩⟩⟩⟩ (hk4 _ _ _ _ _ h)
      · obtain ⟨g3, h⟩ := sd_gu_go h
        refine sm_W.runL (sm_C_mono D) 7 (G := sm_in a1 20 = true ∧ True) (e := ((I (21 + 9) (Int32.toNatClampNeg a1)) + x3)) (fr' := fun a4 => (25, [some (.ref 21), some (.int x1), some (.int x2), some (.int x3), some (.int x4), some (.int x5), some (.int a1), some (.int a4), none, none], [], 0, 0)) (M' := fun _ => (I, J, sm_rf t d)) rfl h ⟨g3, trivial⟩ (fun a4 h => ?_)
        obtain ⟨g5, h⟩ := sd_gu_go h
        refine sm_W.runL (sm_C_mono D) 7 (G := sm_in a1 20 = true ∧ True) (e := ((I (21 + 10) (Int32.toNatClampNeg a1)) + x3)) (fr' := fun a6 => (32, [some (.ref 21), some (.int x1), some (.int x2), some (.int x3), some (.int x4), some (.int x5), some (.int a1), some (.int a4), some (.int a6), none], [], 0, 0)) (M' := fun _ => (I, J, sm_rf t d)) rfl h ⟨g5, trivial⟩ (fun a6 h => ?_)
        refine sm_W.run (sm_C_mono D) 3 (G := True) (fr' := (35, [some (.ref 21), some (.int x1), some (.int x2), some (.int x3), some (.int x4), some (.int x5), some (.int a1), some (.int a4), some (.int a6), none], [.int x5, .ref 21, .ref 21], 0, 0)) (M' := (I, J, sm_rf t d)) rfl trivial ?_
        obtain ⟨r7, hc, h⟩ := sd_q1_go h
        refine sm_W.cal (sm_C_mono D) (y := 84) (as := [.ref 21, .int x5]) (fr' := (36, [some (.ref 21), some (.int x1), some (.int x2), some (.int x3), some (.int x4), some (.int x5), some (.int a1), some (.int a4), some (.int a6), none], [.ref 21], 0, 0)) rfl (T_Valley_ofPart (by omega) (by decide) hc ?_)
        show sm_W sm_sh X (sm_C sm_sh X sm_P D) me_13 Q (36, [some (.ref 21), some (.int x1), some (.int x2), some (.int x3), some (.int x4), some (.int x5), some (.int a1), some (.int a4), some (.int a6), none], [.int r7, .ref 21], 0, 0) (I, J, sm_rf t d)
        refine sm_W.run (sm_C_mono D) 4 (G := True) (fr' := (40, [some (.ref 21), some (.int x1), some (.int x2), some (.int x3), some (.int x4), some (.int x5), some (.int a1), some (.int a4), some (.int a6), none], [.int a6, .int a4, .int (r7 &&& x1), .ref 21], 0, 0)) (M' := (I, J, sm_rf t d)) rfl trivial ?_
        obtain ⟨r8, hc, h⟩ := sd_q1_go h
        refine sm_W.cal (sm_C_mono D) (y := 85) (as := [.ref 21, .int (r7 &&& x1), .int a4, .int a6]) (fr' := (41, [some (.ref 21), some (.int x1), some (.int x2), some (.int x3), some (.int x4), some (.int x5), some (.int a1), some (.int a4), some (.int a6), none], [], 0, 0)) rfl (T_Valley_reaching (by omega) (by decide) hc ?_)
        show sm_W sm_sh X (sm_C sm_sh X sm_P D) me_13 Q (41, [some (.ref 21), some (.int x1), some (.int x2), some (.int x3), some (.int x4), some (.int x5), some (.int a1), some (.int a4), some (.int a6), none], [.int r8], 0, 0) (I, J, sm_rf t d)
        refine sm_W.run (sm_C_mono D) 3 (G := True) (fr' := (if decide (a4 < 0) = true then 54 else 44, [some (.ref 21), some (.int x1), some (.int x2), some (.int x3), some (.int x4), some (.int x5), some (.int a1), some (.int a4), some (.int a6), some (.int r8)], [], 0, 0)) (M' := (I, J, sm_rf t d)) rfl trivial (sm_W.iteD h (fun hc h => ?_) (fun hc h => ?_))
        · refine sm_W.run (sm_C_mono D) 1 (G := True) (fr' := (55, [some (.ref 21), some (.int x1), some (.int x2), some (.int x3), some (.int x4), some (.int x5), some (.int a1), some (.int a4), some (.int a6), some (.int r8)], [.int (0 : Int32)], 0, 0)) (M' := (I, J, sm_rf t d)) rfl trivial ?_
          cases h
          exact sm_W.ret (sm_C_mono D) rfl hQ
        · refine sm_W.run (sm_C_mono D) 3 (G := True) (fr' := (if decide ((48 : Int32) < a6) = true then 54 else 47, [some (.ref 21), some (.int x1), some (.int x2), some (.int x3), some (.int x4), some (.int x5), some (.int a1), some (.int a4), some (.int a6), some (.int r8)], [], 0, 0)) (M' := (I, J, sm_rf t d)) rfl trivial (sm_W.iteD h (fun hc h => ?_) (fun hc h => ?_))
          · refine sm_W.run (sm_C_mono D) 1 (G := True) (fr' := (55, [some (.ref 21), some (.int x1), some (.int x2), some (.int x3), some (.int x4), some (.int x5), some (.int a1), some (.int a4), some (.int a6), some (.int r8)], [.int (0 : Int32)], 0, 0)) (M' := (I, J, sm_rf t d)) rfl trivial ?_
            cases h
            exact sm_W.ret (sm_C_mono D) rfl hQ
          · refine sm_W.run (sm_C_mono D) 1 (G := True) (fr' := (48, [some (.ref 21), some (.int x1), some (.int x2), some (.int x3), some (.int x4), some (.int x5), some (.int a1), some (.int a4), some (.int a6), some (.int r8)], [.int r8], 0, 0)) (M' := (I, J, sm_rf t d)) rfl trivial ?_
            obtain ⟨r9, hc, h⟩ := sd_q1_go h
            refine sm_W.cal (sm_C_mono D) (y := 268) (as := [.int r8]) (fr' := (49, [some (.ref 21), some (.int x1), some (.int x2), some (.int x3), some (.int x4), some (.int x5), some (.int a1), some (.int a4), some (.int a6), some (.int r8)], [], 0, 0)) rfl (T_Int_bitCount (by omega) hc ?_)
            show sm_W sm_sh X (sm_C sm_sh X sm_P D) me_13 Q (49, [some (.ref 21), some (.int x1), some (.int x2), some (.int x3), some (.int x4), some (.int x5), some (.int a1), some (.int a4), some (.int a6), some (.int r8)], [.int r9], 0, 0) (I, J, sm_rf t d)
            obtain ⟨g10, h⟩ := sd_gu_go h
            refine sm_W.run (sm_C_mono D) 5 (G := sm_in a1 20 = true ∧ True) (fr' := (if decide ((I (21 + 6) (Int32.toNatClampNeg a1)) ≤ r9) = true then 56 else 54, [some (.ref 21), some (.int x1), some (.int x2), some (.int x3), some (.int x4), some (.int x5), some (.int a1), some (.int a4), some (.int a6), some (.int r8)], [], 0, 0)) (M' := (I, J, sm_rf t d)) rfl ⟨g10, trivial⟩ (sm_W.iteD h (fun hc h => ?_) (fun hc h => ?_))
            · refine sm_W.run (sm_C_mono D) 4 (G := True) (fr' := (4, [some (.ref 21), some (.int x1), some (.int x2), some (.int x3), some (.int (1 : Int32)), some (.int (x5 + (1 : Int32))), some (.int a1), some (.int a4), some (.int a6), some (.int r8)], [], 0, 0)) (M' := (I, J, sm_rf t d)) rfl trivial ?_
              exact sm_W.forget (L' := [some (.ref 21), some (.int x1), some (.int x2), some (.int x3), some (.int (1 : Int32)), some (.int (x5 + (1 : Int32))), none, none, none, none]) ⟨rfl, ⟨rfl, ⟨rfl, ⟨rfl, ⟨rfl, ⟨rfl, trivial⟩⟩⟩⟩⟩⟩ (hk4 _ _ _ _ _ h)
            · refine sm_W.run (sm_C_mono D) 1 (G := True) (fr' := (55, [some (.ref 21), some (.int x1), some (.int x2), some (.int x3), some (.int x4), some (.int x5), some (.int a1), some (.int a4), some (.int a6), some (.int r8)], [.int (0 : Int32)], 0, 0)) (M' := (I, J, sm_rf t d)) rfl trivial ?_
              cases h
              exact sm_W.ret (sm_C_mono D) rfl hQ
  · skip
    refine sm_W.run (sm_C_mono D) 3 (G := True) (fr' := (if decide ((4 : Int32) ≤ x5) = true then 60 else 7, [some (.ref 41), some (.int x1), some (.int x2), some (.int x3), some (.int x4), some (.int x5), none, none, none, none], [], 0, 0)) (M' := (I, J, sm_rf t d)) rfl trivial (sm_W.iteD h (fun hc h => ?_) (fun hc h => ?_))
    · refine sm_W.run (sm_C_mono D) 1 (G := True) (fr' := (61, [some (.ref 41), some (.int x1), some (.int x2), some (.int x3), some (.int x4), some (.int x5), none, none, none, none], [.int x4], 0, 0)) (M' := (I, J, sm_rf t d)) rfl trivial ?_
      cases h
      exact sm_W.ret (sm_C_mono D) rfl hQ
    · refine sm_W.runL (sm_C_mono D) 6 (G := True) (e := ((x2 * (4 : Int32)) + x5)) (fr' := fun a1 => (13, [some (.ref 41), some (.int x1), some (.int x2), some (.int x3), some (.int x4), some (.int x5), some (.int a1), none, none, none], [], 0, 0)) (M' := fun _ => (I, J, sm_rf t d)) rfl h trivial (fun a1 h => ?_)
      obtain ⟨g2, h⟩ := sd_gu_go h
      refine sm_W.run (sm_C_mono D) 5 (G := sm_in a1 20 = true ∧ True) (fr' := (if decide ((I (41 + 6) (Int32.toNatClampNeg a1)) ≤ 0) = true then 58 else 18, [some (.ref 41), some (.int x1), some (.int x2), some (.int x3), some (.int x4), some (.int x5), some (.int a1), none, none, none], [], 0, 0)) (M' := (I, J, sm_rf t d)) rfl ⟨g2, trivial⟩ (sm_W.iteD h (fun hc h => ?_) (fun hc h => ?_))
      · refine sm_W.run (sm_C_mono D) 2 (G := True) (fr' := (4, [some (.ref 41), some (.int x1), some (.int x2), some (.int x3), some (.int x4), some (.int (x5 + (1 : Int32))), some (.int a1), none, none, none], [], 0, 0)) (M' := (I, J, sm_rf t d)) rfl trivial ?_
        exact sm_W.forget (L' := [some (.ref 41), some (.int x1), some (.int x2), some (.int x3), some (.int x4), some (.int (x5 + (1 : Int32))), none, none, none, none]) ⟨rfl, ⟨rfl, ⟨rfl, ⟨rfl, ⟨rfl, ⟨rfl, trivial⟩⟩⟩⟩⟩⟩ (hk4 _ _ _ _ _ h)
      · obtain ⟨g3, h⟩ := sd_gu_go h
        refine sm_W.runL (sm_C_mono D) 7 (G := sm_in a1 20 = true ∧ True) (e := ((I (41 + 9) (Int32.toNatClampNeg a1)) + x3)) (fr' := fun a4 => (25, [some (.ref 41), some (.int x1), some (.int x2), some (.int x3), some (.int x4), some (.int x5), some (.int a1), some (.int a4), none, none], [], 0, 0)) (M' := fun _ => (I, J, sm_rf t d)) rfl h ⟨g3, trivial⟩ (fun a4 h => ?_)
        obtain ⟨g5, h⟩ := sd_gu_go h
        refine sm_W.runL (sm_C_mono D) 7 (G := sm_in a1 20 = true ∧ True) (e := ((I (41 + 10) (Int32.toNatClampNeg a1)) + x3)) (fr' := fun a6 => (32, [some (.ref 41), some (.int x1), some (.int x2), some (.int x3), some (.int x4), some (.int x5), some (.int a1), some (.int a4), some (.int a6), none], [], 0, 0)) (M' := fun _ => (I, J, sm_rf t d)) rfl h ⟨g5, trivial⟩ (fun a6 h => ?_)
        refine sm_W.run (sm_C_mono D) 3 (G := True) (fr' := (35, [some (.ref 41), some (.int x1), some (.int x2), some (.int x3), some (.int x4), some (.int x5), some (.int a1), some (.int a4), some (.int a6), none], [.int x5, .ref 41, .ref 41], 0, 0)) (M' := (I, J, sm_rf t d)) rfl trivial ?_
        obtain ⟨r7, hc, h⟩ := sd_q1_go h
        refine sm_W.cal (sm_C_mono D) (y := 84) (as := [.ref 41, .int x5]) (fr' := (36, [some (.ref 41), some (.int x1), some (.int x2), some (.int x3), some (.int x4), some (.int x5), some (.int a1), some (.int a4), some (.int a6), none], [.ref 41], 0, 0)) rfl (T_Valley_ofPart (by omega) (by decide) hc ?_)
        show sm_W sm_sh X (sm_C sm_sh X sm_P D) me_13 Q (36, [some (.ref 41), some (.int x1), some (.int x2), some (.int x3), some (.int x4), some (.int x5), some (.int a1), some (.int a4), some (.int a6), none], [.int r7, .ref 41], 0, 0) (I, J, sm_rf t d)
        refine sm_W.run (sm_C_mono D) 4 (G := True) (fr' := (40, [some (.ref 41), some (.int x1), some (.int x2), some (.int x3), some (.int x4), some (.int x5), some (.int a1), some (.int a4), some (.int a6), none], [.int a6, .int a4, .int (r7 &&& x1), .ref 41], 0, 0)) (M' := (I, J, sm_rf t d)) rfl trivial ?_
        obtain ⟨r8, hc, h⟩ := sd_q1_go h
        refine sm_W.cal (sm_C_mono D) (y := 85) (as := [.ref 41, .int (r7 &&& x1), .int a4, .int a6]) (fr' := (41, [some (.ref 41), some (.int x1), some (.int x2), some (.int x3), some (.int x4), some (.int x5), some (.int a1), some (.int a4), some (.int a6), none], [], 0, 0)) rfl (T_Valley_reaching (by omega) (by decide) hc ?_)
        show sm_W sm_sh X (sm_C sm_sh X sm_P D) me_13 Q (41, [some (.ref 41), some (.int x1), some (.int x2), some (.int x3), some (.int x4), some (.int x5), some (.int a1), some (.int a4), some (.int a6), none], [.int r8], 0, 0) (I, J, sm_rf t d)
        refine sm_W.run (sm_C_mono D) 3 (G := True) (fr' := (if decide (a4 < 0) = true then 54 else 44, [some (.ref 41), some (.int x1), some (.int x2), some (.int x3), some (.int x4), some (.int x5), some (.int a1), some (.int a4), some (.int a6), some (.int r8)], [], 0, 0)) (M' := (I, J, sm_rf t d)) rfl trivial (sm_W.iteD h (fun hc h => ?_) (fun hc h => ?_))
        · refine sm_W.run (sm_C_mono D) 1 (G := True) (fr' := (55, [some (.ref 41), some (.int x1), some (.int x2), some (.int x3), some (.int x4), some (.int x5), some (.int a1), some (.int a4), some (.int a6), some (.int r8)], [.int (0 : Int32)], 0, 0)) (M' := (I, J, sm_rf t d)) rfl trivial ?_
          cases h
          exact sm_W.ret (sm_C_mono D) rfl hQ
        · refine sm_W.run (sm_C_mono D) 3 (G := True) (fr' := (if decide ((48 : Int32) < a6) = true then 54 else 47, [some (.ref 41), some (.int x1), some (.int x2), some (.int x3), some (.int x4), some (.int x5), some (.int a1), some (.int a4), some (.int a6), some (.int r8)], [], 0, 0)) (M' := (I, J, sm_rf t d)) rfl trivial (sm_W.iteD h (fun hc h => ?_) (fun hc h => ?_))
          · refine sm_W.run (sm_C_mono D) 1 (G := True) (fr' := (55, [some (.ref 41), some (.int x1), some (.int x2), some (.int x3), some (.int x4), some (.int x5), some (.int a1), some (.int a4), some (.int a6), some (.int r8)], [.int (0 : Int32)], 0, 0)) (M' := (I, J, sm_rf t d)) rfl trivial ?_
            cases h
            exact sm_W.ret (sm_C_mono D) rfl hQ
          · refine sm_W.run (sm_C_mono D) 1 (G := True) (fr' := (48, [some (.ref 41), some (.int x1), some (.int x2), some (.int x3), some (.int x4), some (.int x5), some (.int a1), some (.int a4), some (.int a6), some (.int r8)], [.int r8], 0, 0)) (M' := (I, J, sm_rf t d)) rfl trivial ?_
            obtain ⟨r9, hc, h⟩ := sd_q1_go h
            refine sm_W.cal (sm_C_mono D) (y := 268) (as := [.int r8]) (fr' := (49, [some (.ref 41), some (.int x1), some (.int x2), some (.int x3), some (.int x4), some (.int x5), some (.int a1), some (.int a4), some (.int a6), some (.int r8)], [], 0, 0)) rfl (T_Int_bitCount (by omega) hc ?_)
            show sm_W sm_sh X (sm_C sm_sh X sm_P D) me_13 Q (49, [some (.ref 41), some (.int x1), some (.int x2), some (.int x3), some (.int x4), some (.int x5), some (.int a1), some (.int a4), some (.int a6), some (.int r8)], [.int r9], 0, 0) (I, J, sm_rf t d)
            obtain ⟨g10, h⟩ := sd_gu_go h
            refine sm_W.run (sm_C_mono D) 5 (G := sm_in a1 20 = true ∧ True) (fr' := (if decide ((I (41 + 6) (Int32.toNatClampNeg a1)) ≤ r9) = true then 56 else 54, [some (.ref 41), some (.int x1), some (.int x2), some (.int x3), some (.int x4), some (.int x5), some (.int a1), some (.int a4), some (.int a6), some (.int r8)], [], 0, 0)) (M' := (I, J, sm_rf t d)) rfl ⟨g10, trivial⟩ (sm_W.iteD h (fun hc h => ?_) (fun hc h => ?_))
            · refine sm_W.run (sm_C_mono D) 4 (G := True) (fr' := (4, [some (.ref 41), some (.int x1), some (.int x2), some (.int x3), some (.int (1 : Int32)), some (.int (x5 + (1 : Int32))), some (.int a1), some (.int a4), some (.int a6), some (.int r8)], [], 0, 0)) (M' := (I, J, sm_rf t d)) rfl trivial ?_
              exact sm_W.forget (L' := [some (.ref 41), some (.int x1), some (.int x2), some (.int x3), some (.int (1 : Int32)), some (.int (x5 + (1 : Int32))), none, none, none, none]) ⟨rfl, ⟨rfl, ⟨rfl, ⟨rfl, ⟨rfl, ⟨rfl, trivial⟩⟩⟩⟩⟩⟩ (hk4 _ _ _ _ _ h)
            · refine sm_W.run (sm_C_mono D) 1 (G := True) (fr' := (55, [some (.ref 41), some (.int x1), some (.int x2), some (.int x3), some (.int x4), some (.int x5), some (.int a1), some (.int a4), some (.int a6), some (.int r8)], [.int (0 : Int32)], 0, 0)) (M' := (I, J, sm_rf t d)) rfl trivial ?_
              cases h
              exact sm_W.ret (sm_C_mono D) rfl hQ
theorem G_Choir_canBeSungAt_4 {X : Nat × (Nat → Int32)} {t d D : Nat} {Q : sm_Q} {I : sm_MI} {J : sm_MJ} {p0 : Nat} {rz : Int32}
    (hD : 1 ≤ D) (hp : (p0 = 21) ∨ (p0 = 41)) (hQ : Q (.inl (some (.int rz))) (I, J, sm_rf t d))  : ∀ (n : Nat) (x1 : Int32) (x2 : Int32) (x3 : Int32) (x4 : Int32) (x5 : Int32), F_Choir_canBeSungAt_4 p0 I n x1 x2 x3 x4 x5 = some (rz) → sm_W sm_sh X (sm_C sm_sh X sm_P D) me_13 Q (4, [some (.ref p0), some (.int x1), some (.int x2), some (.int x3), some (.int x4), some (.int x5), none, none, none, none], [], 0, 0) (I, J, sm_rf t d) := by
  intro n
  induction n with
  | zero => intro x1 x2 x3 x4 x5 h; cases (show (none : Option (Int32)) = some (rz) from h)
  | succ n ih => intro x1 x2 x3 x4 x5 h; exact G_Choir_canBeSungAt_4B hD hp (show F_Choir_canBeSungAt_4B p0 (F_Choir_canBeSungAt_4 p0 I n) x1 x2 x3 x4 x5 I = some (rz) from h) hQ  ih
theorem G_Choir_canBeSungAt {X : Nat × (Nat → Int32)} {t d D : Nat} {Q : sm_Q} {I : sm_MI} {J : sm_MJ} {p0 : Nat} {x1 : Int32} {x2 : Int32} {x3 : Int32} {rz : Int32}
    (hD : 1 ≤ D) (hp : (p0 = 21) ∨ (p0 = 41)) (h : F_Choir_canBeSungAt p0 x1 x2 x3 I = some (rz)) (hQ : Q (.inl (some (.int rz))) (I, J, sm_rf t d))  : sm_W sm_sh X (sm_C sm_sh X sm_P D) me_13 Q (0, [some (.ref p0), some (.int x1), some (.int x2), some (.int x3), none, none, none, none, none, none], [], 0, 0) (I, J, sm_rf t d) := by
  unfold F_Choir_canBeSungAt at h
  rcases hp with rfl | rfl
  · skip
    refine sm_W.run (sm_C_mono D) 4 (G := True) (fr' := (4, [some (.ref 21), some (.int x1), some (.int x2), some (.int x3), some (.int (0 : Int32)), some (.int (0 : Int32)), none, none, none, none], [], 0, 0)) (M' := (I, J, sm_rf t d)) rfl trivial ?_
    exact (G_Choir_canBeSungAt_4 hD (by decide) hQ sd_fu _ _ _ _ _ h)
  · skip
    refine sm_W.run (sm_C_mono D) 4 (G := True) (fr' := (4, [some (.ref 41), some (.int x1), some (.int x2), some (.int x3), some (.int (0 : Int32)), some (.int (0 : Int32)), none, none, none, none], [], 0, 0)) (M' := (I, J, sm_rf t d)) rfl trivial ?_
    exact (G_Choir_canBeSungAt_4 hD (by decide) hQ sd_fu _ _ _ _ _ h)
theorem T_Choir_canBeSungAt {X : Nat × (Nat → Int32)} {t d D : Nat} {Q : sm_Q} {I : sm_MI} {J : sm_MJ} {p0 : Nat} {x1 : Int32} {x2 : Int32} {x3 : Int32} {rz : Int32}
    (hD : 2 ≤ D) (hp : (p0 = 21) ∨ (p0 = 41)) (h : F_Choir_canBeSungAt p0 x1 x2 x3 I = some (rz)) (hQ : Q (.inl (some (.int rz))) (I, J, sm_rf t d)) : sm_C sm_sh X sm_P D 13 [.ref p0, .int x1, .int x2, .int x3] (I, J, sm_rf t d) Q := by
  cases D with
  | zero => omega
  | succ D => exact sm_C.of (me := me_13) (L := [some (.ref p0), some (.int x1), some (.int x2), some (.int x3), none, none, none, none, none, none]) rfl rfl rfl (sm_W.forget (L' := [some (.ref p0), some (.int x1), some (.int x2), some (.int x3), none, none, none, none, none, none]) ⟨rfl, ⟨rfl, ⟨rfl, ⟨rfl, trivial⟩⟩⟩⟩ (G_Choir_canBeSungAt (by omega) hp h hQ))
-- 269 Math_max
noncomputable def F_Math_max (x0 : Int32) (x1 : Int32) : Option (Int32) :=
  if x0 < x1 then
    some (x1)
  else
    some (x0)
theorem G_Math_max {X : Nat × (Nat → Int32)} {t d D : Nat} {Q : sm_Q} {I : sm_MI} {J : sm_MJ} {x0 : Int32} {x1 : Int32} {rz : Int32}
    (hD : 0 ≤ D) (h : F_Math_max x0 x1 = some (rz)) (hQ : Q (.inl (some (.int rz))) (I, J, sm_rf t d))  : sm_W sm_sh X (sm_C sm_sh X sm_P D) me_269 Q (0, [some (.int x0), some (.int x1)], [], 0, 0) (I, J, sm_rf t d) := by
  unfold F_Math_max at h
  refine sm_W.run (sm_C_mono D) 3 (G := True) (fr' := (if decide (x0 < x1) = true then 5 else 3, [some (.int x0), some (.int x1)], [], 0, 0)) (M' := (I, J, sm_rf t d)) rfl trivial (sm_W.iteD h (fun hc h => ?_) (fun hc h => ?_))
  · refine sm_W.run (sm_C_mono D) 1 (G := True) (fr' := (6, [some (.int x0), some (.int x1)], [.int x1], 0, 0)) (M' := (I, J, sm_rf t d)) rfl trivial ?_
    cases h
    exact sm_W.ret (sm_C_mono D) rfl hQ
  · refine sm_W.run (sm_C_mono D) 2 (G := True) (fr' := (6, [some (.int x0), some (.int x1)], [.int x0], 0, 0)) (M' := (I, J, sm_rf t d)) rfl trivial ?_
    cases h
    exact sm_W.ret (sm_C_mono D) rfl hQ
theorem T_Math_max {X : Nat × (Nat → Int32)} {t d D : Nat} {Q : sm_Q} {I : sm_MI} {J : sm_MJ} {x0 : Int32} {x1 : Int32} {rz : Int32}
    (hD : 1 ≤ D) (h : F_Math_max x0 x1 = some (rz)) (hQ : Q (.inl (some (.int rz))) (I, J, sm_rf t d)) : sm_C sm_sh X sm_P D 269 [.int x0, .int x1] (I, J, sm_rf t d) Q := by
  cases D with
  | zero => omega
  | succ D => exact sm_C.of (me := me_269) (L := [some (.int x0), some (.int x1)]) rfl rfl rfl (sm_W.forget (L' := [some (.int x0), some (.int x1)]) ⟨rfl, ⟨rfl, trivial⟩⟩ (G_Math_max (by omega) h hQ))
-- 90 Valley_lackingIn
noncomputable def F_Valley_lackingIn (p0 : Nat) (x1 : Int32) (x2 : Int32) (I : sm_MI) : Option (Int32) :=
  sd_gu (sm_in x1 20 = true) <|
  sd_gu (sm_in x1 20 = true) <|
  sd_q1 (F_Int_bitCount ((I (p0 + 11) (Int32.toNatClampNeg x1)) &&& x2)) fun r3 =>
  sd_q1 (F_Math_max (0 : Int32) ((I (p0 + 6) (Int32.toNatClampNeg x1)) - r3)) fun r4 =>
  some (r4)
theorem G_Valley_lackingIn {X : Nat × (Nat → Int32)} {t d D : Nat} {Q : sm_Q} {I : sm_MI} {J : sm_MJ} {p0 : Nat} {x1 : Int32} {x2 : Int32} {rz : Int32}
    (hD : 1 ≤ D) (hp : (p0 = 21) ∨ (p0 = 41)) (h : F_Valley_lackingIn p0 x1 x2 I = some (rz)) (hQ : Q (.inl (some (.int rz))) (I, J, sm_rf t d))  : sm_W sm_sh X (sm_C sm_sh X sm_P D) me_90 Q (0, [some (.ref p0), some (.int x1), some (.int x2)], [], 0, 0) (I, J, sm_rf t d) := by
  unfold F_Valley_lackingIn at h
  rcases hp with rfl | rfl
  · skip
    obtain ⟨g1, h⟩ := sd_gu_go h
    obtain ⟨g2, h⟩ := sd_gu_go h
    refine sm_W.run (sm_C_mono D) 11 (G := sm_in x1 20 = true ∧ sm_in x1 20 = true ∧ True) (fr' := (11, [some (.ref 21), some (.int x1), some (.int x2)], [.int ((I (21 + 11) (Int32.toNatClampNeg x1)) &&& x2), .int (I (21 + 6) (Int32.toNatClampNeg x1)), .int (0 : Int32)], 0, 0)) (M' := (I, J, sm_rf t d)) rfl ⟨g1, g2, trivial⟩ ?_
    obtain ⟨r3, hc, h⟩ := sd_q1_go h
    refine sm_W.cal (sm_C_mono D) (y := 268) (as := [.int ((I (21 + 11) (Int32.toNatClampNeg x1)) &&& x2)]) (fr' := (12, [some (.ref 21), some (.int x1), some (.int x2)], [.int (I (21 + 6) (Int32.toNatClampNeg x1)), .int (0 : Int32)], 0, 0)) rfl (T_Int_bitCount (by omega) hc ?_)
    show sm_W sm_sh X (sm_C sm_sh X sm_P D) me_90 Q (12, [some (.ref 21), some (.int x1), some (.int x2)], [.int r3, .int (I (21 + 6) (Int32.toNatClampNeg x1)), .int (0 : Int32)], 0, 0) (I, J, sm_rf t d)
    refine sm_W.run (sm_C_mono D) 1 (G := True) (fr' := (13, [some (.ref 21), some (.int x1), some (.int x2)], [.int ((I (21 + 6) (Int32.toNatClampNeg x1)) - r3), .int (0 : Int32)], 0, 0)) (M' := (I, J, sm_rf t d)) rfl trivial ?_
    obtain ⟨r4, hc, h⟩ := sd_q1_go h
    refine sm_W.cal (sm_C_mono D) (y := 269) (as := [.int (0 : Int32), .int ((I (21 + 6) (Int32.toNatClampNeg x1)) - r3)]) (fr' := (14, [some (.ref 21), some (.int x1), some (.int x2)], [], 0, 0)) rfl (T_Math_max (by omega) hc ?_)
    show sm_W sm_sh X (sm_C sm_sh X sm_P D) me_90 Q (14, [some (.ref 21), some (.int x1), some (.int x2)], [.int r4], 0, 0) (I, J, sm_rf t d)
    cases h
    exact sm_W.ret (sm_C_mono D) rfl hQ
  · skip
    obtain ⟨g1, h⟩ := sd_gu_go h
    obtain ⟨g2, h⟩ := sd_gu_go h
    refine sm_W.run (sm_C_mono D) 11 (G := sm_in x1 20 = true ∧ sm_in x1 20 = true ∧ True) (fr' := (11, [some (.ref 41), some (.int x1), some (.int x2)], [.int ((I (41 + 11) (Int32.toNatClampNeg x1)) &&& x2), .int (I (41 + 6) (Int32.toNatClampNeg x1)), .int (0 : Int32)], 0, 0)) (M' := (I, J, sm_rf t d)) rfl ⟨g1, g2, trivial⟩ ?_
    obtain ⟨r3, hc, h⟩ := sd_q1_go h
    refine sm_W.cal (sm_C_mono D) (y := 268) (as := [.int ((I (41 + 11) (Int32.toNatClampNeg x1)) &&& x2)]) (fr' := (12, [some (.ref 41), some (.int x1), some (.int x2)], [.int (I (41 + 6) (Int32.toNatClampNeg x1)), .int (0 : Int32)], 0, 0)) rfl (T_Int_bitCount (by omega) hc ?_)
    show sm_W sm_sh X (sm_C sm_sh X sm_P D) me_90 Q (12, [some (.ref 41), some (.int x1), some (.int x2)], [.int r3, .int (I (41 + 6) (Int32.toNatClampNeg x1)), .int (0 : Int32)], 0, 0) (I, J, sm_rf t d)
    refine sm_W.run (sm_C_mono D) 1 (G := True) (fr' := (13, [some (.ref 41), some (.int x1), some (.int x2)], [.int ((I (41 + 6) (Int32.toNatClampNeg x1)) - r3), .int (0 : Int32)], 0, 0)) (M' := (I, J, sm_rf t d)) rfl trivial ?_
    obtain ⟨r4, hc, h⟩ := sd_q1_go h
    refine sm_W.cal (sm_C_mono D) (y := 269) (as := [.int (0 : Int32), .int ((I (41 + 6) (Int32.toNatClampNeg x1)) - r3)]) (fr' := (14, [some (.ref 41), some (.int x1), some (.int x2)], [], 0, 0)) rfl (T_Math_max (by omega) hc ?_)
    show sm_W sm_sh X (sm_C sm_sh X sm_P D) me_90 Q (14, [some (.ref 41), some (.int x1), some (.int x2)], [.int r4], 0, 0) (I, J, sm_rf t d)
    cases h
    exact sm_W.ret (sm_C_mono D) rfl hQ
theorem T_Valley_lackingIn {X : Nat × (Nat → Int32)} {t d D : Nat} {Q : sm_Q} {I : sm_MI} {J : sm_MJ} {p0 : Nat} {x1 : Int32} {x2 : Int32} {rz : Int32}
    (hD : 2 ≤ D) (hp : (p0 = 21) ∨ (p0 = 41)) (h : F_Valley_lackingIn p0 x1 x2 I = some (rz)) (hQ : Q (.inl (some (.int rz))) (I, J, sm_rf t d)) : sm_C sm_sh X sm_P D 90 [.ref p0, .int x1, .int x2] (I, J, sm_rf t d) Q := by
  cases D with
  | zero => omega
  | succ D => exact sm_C.of (me := me_90) (L := [some (.ref p0), some (.int x1), some (.int x2)]) rfl rfl rfl (sm_W.forget (L' := [some (.ref p0), some (.int x1), some (.int x2)]) ⟨rfl, ⟨rfl, ⟨rfl, trivial⟩⟩⟩ (G_Valley_lackingIn (by omega) hp h hQ))
-- 14 Choir_rowLackingOne
noncomputable def F_Choir_rowLackingOne_24 (p0 : Nat) (k6 : Int32 → Int32 → Int32 → Int32 → Int32 → Option (Int32)) (x1 : Int32) (x2 : Int32) (x3 : Int32) (x4 : Int32) (x5 : Int32) (x7 : Int32) (I : sm_MI) : Option (Int32) :=
  sd_lt (x4 + x7) fun a1 =>
  k6 x1 x2 x3 a1 (x5 + (1 : Int32))
noncomputable def F_Choir_rowLackingOne_6B (p0 : Nat) (k6 : Int32 → Int32 → Int32 → Int32 → Int32 → Option (Int32)) (x1 : Int32) (x2 : Int32) (x3 : Int32) (x4 : Int32) (x5 : Int32) (I : sm_MI) : Option (Int32) :=
  if (4 : Int32) ≤ x5 then
    if ¬ x4 = (1 : Int32) then
      some ((-1 : Int32))
    else
      some (x3)
  else
    sd_lt ((x2 * (4 : Int32)) + x5) fun a1 =>
    sd_q1 (F_Valley_lackingIn p0 a1 x1 I) fun r2 =>
    if r2 ≤ 0 then
      F_Choir_rowLackingOne_24 p0 k6 x1 x2 x3 x4 x5 r2 I
    else
      F_Choir_rowLackingOne_24 p0 k6 x1 x2 a1 x4 x5 r2 I
noncomputable def F_Choir_rowLackingOne_6 (p0 : Nat) (I : sm_MI) (n : Nat) : Int32 → Int32 → Int32 → Int32 → Int32 → Option (Int32) :=
  sd_fix (fun k x1 x2 x3 x4 x5 => F_Choir_rowLackingOne_6B p0 k x1 x2 x3 x4 x5 I) (fun _ _ _ _ _ => none) n
noncomputable def F_Choir_rowLackingOne (p0 : Nat) (x1 : Int32) (x2 : Int32) (I : sm_MI) : Option (Int32) :=
  F_Choir_rowLackingOne_6 p0 I sd_fu x1 x2 (-1 : Int32) (0 : Int32) (0 : Int32)
theorem G_Choir_rowLackingOne_24 {X : Nat × (Nat → Int32)} {t d D : Nat} {Q : sm_Q} {I : sm_MI} {J : sm_MJ} {p0 : Nat} {k6 : Int32 → Int32 → Int32 → Int32 → Int32 → Option (Int32)} {x1 : Int32} {x2 : Int32} {x3 : Int32} {x4 : Int32} {x5 : Int32} {x7 : Int32} {rz : Int32}
    (hD : 2 ≤ D) (hp : (p0 = 21) ∨ (p0 = 41)) (h : F_Choir_rowLackingOne_24 p0 k6 x1 x2 x3 x4 x5 x7 I = some (rz)) (hQ : Q (.inl (some (.int rz))) (I, J, sm_rf t d)) (hk6 : ∀ (x1 : Int32) (x2 : Int32) (x3 : Int32) (x4 : Int32) (x5 : Int32), k6 x1 x2 x3 x4 x5 = some (rz) → sm_W sm_sh X (sm_C sm_sh X sm_P D) me_14 Q (6, [some (.ref p0), some (.int x1), some (.int x2), some (.int x3), some (.int x4), some (.int x5), none, none], [], 0, 0) (I, J, sm_rf t d)) : sm_W sm_sh X (sm_C sm_sh X sm_P D) me_14 Q (24, [some (.ref p0), some (.int x1), some (.int x2), some (.int x3), some (.int x4), some (.int x5), none, some (.int x7)], [], 0, 0) (I, J, sm_rf t d) := by
  unfold F_Choir_rowLackingOne_24 at h
  rcases hp with rfl | rfl
  · skip
    refine sm_W.runL (sm_C_mono D) 4 (G := True) (e := (x4 + x7)) (fr' := fun a1 => (28, [some (.ref 21), some (.int x1), some (.int x2), some (.int x3), some (.int a1), some (.int x5), none, some (.int x7)], [], 0, 0)) (M' := fun _ => (I, J, sm_rf t d)) rfl h trivial (fun a1 h => ?_)
    refine sm_W.run (sm_C_mono D) 2 (G := True) (fr' := (6, [some (.ref 21), some (.int x1), some (.int x2), some (.int x3), some (.int a1), some (.int (x5 + (1 : Int32))), none, some (.int x7)], [], 0, 0)) (M' := (I, J, sm_rf t d)) rfl trivial ?_
    exact sm_W.forget (L' := [some (.ref 21), some (.int x1), some (.int x2), some (.int x3), some (.int a1), some (.int (x5 + (1 : Int32))), none, none]) ⟨rfl, ⟨rfl, ⟨rfl, ⟨rfl, ⟨rfl, ⟨rfl, trivial⟩⟩⟩⟩⟩⟩ (hk6 _ _ _ _ _ h)
  · skip
    refine sm_W.runL (sm_C_mono D) 4 (G := True) (e := (x4 + x7)) (fr' := fun a1 => (28, [some (.ref 41), some (.int x1), some (.int x2), some (.int x3), some (.int a1), some (.int x5), none, some (.int x7)], [], 0, 0)) (M' := fun _ => (I, J, sm_rf t d)) rfl h trivial (fun a1 h => ?_)
    refine sm_W.run (sm_C_mono D) 2 (G := True) (fr' := (6, [some (.ref 41), some (.int x1), some (.int x2), some (.int x3), some (.int a1), some (.int (x5 + (1 : Int32))), none, some (.int x7)], [], 0, 0)) (M' := (I, J, sm_rf t d)) rfl trivial ?_
    exact sm_W.forget (L' := [some (.ref 41), some (.int x1), some (.int x2), some (.int x3), some (.int a1), some (.int (x5 + (1 : Int32))), none, none]) ⟨rfl, ⟨rfl, ⟨rfl, ⟨rfl, ⟨rfl, ⟨rfl, trivial⟩⟩⟩⟩⟩⟩ (hk6 _ _ _ _ _ h)
theorem G_Choir_rowLackingOne_6B {X : Nat × (Nat → Int32)} {t d D : Nat} {Q : sm_Q} {I : sm_MI} {J : sm_MJ} {p0 : Nat} {k6 : Int32 → Int32 → Int32 → Int32 → Int32 → Option (Int32)} {x1 : Int32} {x2 : Int32} {x3 : Int32} {x4 : Int32} {x5 : Int32} {rz : Int32}
    (hD : 2 ≤ D) (hp : (p0 = 21) ∨ (p0 = 41)) (h : F_Choir_rowLackingOne_6B p0 k6 x1 x2 x3 x4 x5 I = some (rz)) (hQ : Q (.inl (some (.int rz))) (I, J, sm_rf t d)) (hk6 : ∀ (x1 : Int32) (x2 : Int32) (x3 : Int32) (x4 : Int32) (x5 : Int32), k6 x1 x2 x3 x4 x5 = some (rz) → sm_W sm_sh X (sm_C sm_sh X sm_P D) me_14 Q (6, [some (.ref p0), some (.int x1), some (.int x2), some (.int x3), some (.int x4), some (.int x5), none, none], [], 0, 0) (I, J, sm_rf t d)) : sm_W sm_sh X (sm_C sm_sh X sm_P D) me_14 Q (6, [some (.ref p0), some (.int x1), some (.int x2), some (.int x3), some (.int x4), some (.int x5), none, none], [], 0, 0) (I, J, sm_rf t d) := by
  unfold F_Choir_rowLackingOne_6B at h
  rcases hp with rfl | rfl
  · skip
    refine sm_W.run (sm_C_mono D) 3 (G := True) (fr' := (if decide ((4 : Int32) ≤ x5) = true then 30 else 9, [some (.ref 21), some (.int x1), some (.int x2), some (.int x3), some (.int x4), some (.int x5), none, none], [], 0, 0)) (M' := (I, J, sm_rf t d)) rfl trivial (sm_W.iteD h (fun hc h => ?_) (fun hc h => ?_))
    · refine sm_W.run (sm_C_mono D) 3 (G := True) (fr' := (if decide (¬ x4 = (1 : Int32)) = true then 35 else 33, [some (.ref 21), some (.int x1), some (.int x2), some (.int x3), some (.int x4), some (.int x5), none, none], [], 0, 0)) (M' := (I, J, sm_rf t d)) rfl trivial (sm_W.iteD h (fun hc h => ?_) (fun hc h => ?_))
      · refine sm_W.run (sm_C_mono D) 1 (G := True) (fr' := (36, [some (.ref 21), some (.int x1), some (.int x2), some (.int x3), some (.int x4), some (.int x5), none, none], [.int (-1 : Int32)], 0, 0)) (M' := (I, J, sm_rf t d)) rfl trivial ?_
        cases h
        exact sm_W.ret (sm_C_mono D) rfl hQ
      · refine sm_W.run (sm_C_mono D) 2 (G := True) (fr' := (36, [some (.ref 21), some (.int x1), some (.int x2), some (.int x3), some (.int x4), some (.int x5), none, none], [.int x3], 0, 0)) (M' := (I, J, sm_rf t d)) rfl trivial ?_
        cases h
        exact sm_W.ret (sm_C_mono D) rfl hQ
    · refine sm_W.runL (sm_C_mono D) 6 (G := True) (e := ((x2 * (4 : Int32)) + x5)) (fr' := fun a1 => (15, [some (.ref 21), some (.int x1), some (.int x2), some (.int x3), some (.int x4), some (.int x5), some (.int a1), none], [], 0, 0)) (M' := fun _ => (I, J, sm_rf t d)) rfl h trivial (fun a1 h => ?_)
      refine sm_W.run (sm_C_mono D) 3 (G := True) (fr' := (18, [some (.ref 21), some (.int x1), some (.int x2), some (.int x3), some (.int x4), some (.int x5), some (.int a1), none], [.int x1, .int a1, .ref 21], 0, 0)) (M' := (I, J, sm_rf t d)) rfl trivial ?_
      obtain ⟨r2, hc, h⟩ := sd_q1_go h
      refine sm_W.cal (sm_C_mono D) (y := 90) (as := [.ref 21, .int a1, .int x1]) (fr' := (19, [some (.ref 21), some (.int x1), some (.int x2), some (.int x3), some (.int x4), some (.int x5), some (.int a1), none], [], 0, 0)) rfl (T_Valley_lackingIn (by omega) (by decide) hc ?_)
      show sm_W sm_sh X (sm_C sm_sh X sm_P D) me_14 Q (19, [some (.ref 21), some (.int x1), some (.int x2), some (.int x3), some (.int x4), some (.int x5), some (.int a1), none], [.int r2], 0, 0) (I, J, sm_rf t d)
      refine sm_W.run (sm_C_mono D) 3 (G := True) (fr' := (if decide (r2 ≤ 0) = true then 24 else 22, [some (.ref 21), some (.int x1), some (.int x2), some (.int x3), some (.int x4), some (.int x5), some (.int a1), some (.int r2)], [], 0, 0)) (M' := (I, J, sm_rf t d)) rfl trivial (sm_W.iteD h (fun hc h => ?_) (fun hc h => ?_))
      · exact sm_W.forget (L' := [some (.ref 21), some (.int x1), some (.int x2), some (.int x3), some (.int x4), some (.int x5), none, some (.int r2)]) ⟨rfl, ⟨rfl, ⟨rfl, ⟨rfl, ⟨rfl, ⟨rfl, ⟨rfl, trivial⟩⟩⟩⟩⟩⟩⟩ (G_Choir_rowLackingOne_24 hD (by decide) h hQ hk6)
      · refine sm_W.run (sm_C_mono D) 2 (G := True) (fr' := (24, [some (.ref 21), some (.int x1), some (.int x2), some (.int a1), some (.int x4), some (.int x5), some (.int a1), some (.int r2)], [], 0, 0)) (M' := (I, J, sm_rf t d)) rfl trivial ?_
        exact sm_W.forget (L' := [some (.ref 21), some (.int x1), some (.int x2), some (.int a1), some (.int x4), some (.int x5), none, some (.int r2)]) ⟨rfl, ⟨rfl, ⟨rfl, ⟨rfl, ⟨rfl, ⟨rfl, ⟨rfl, trivial⟩⟩⟩⟩⟩⟩⟩ (G_Choir_rowLackingOne_24 hD (by decide) h hQ hk6)
  · skip
    refine sm_W.run (sm_C_mono D) 3 (G := True) (fr' := (if decide ((4 : Int32) ≤ x5) = true then 30 else 9, [some (.ref 41), some (.int x1), some (.int x2), some (.int x3), some (.int x4), some (.int x5), none, none], [], 0, 0)) (M' := (I, J, sm_rf t d)) rfl trivial (sm_W.iteD h (fun hc h => ?_) (fun hc h => ?_))
    · refine sm_W.run (sm_C_mono D) 3 (G := True) (fr' := (if decide (¬ x4 = (1 : Int32)) = true then 35 else 33, [some (.ref 41), some (.int x1), some (.int x2), some (.int x3), some (.int x4), some (.int x5), none, none], [], 0, 0)) (M' := (I, J, sm_rf t d)) rfl trivial (sm_W.iteD h (fun hc h => ?_) (fun hc h => ?_))
      · refine sm_W.run (sm_C_mono D) 1 (G := True) (fr' := (36, [some (.ref 41), some (.int x1), some (.int x2), some (.int x3), some (.int x4), some (.int x5), none, none], [.int (-1 : Int32)], 0, 0)) (M' := (I, J, sm_rf t d)) rfl trivial ?_
        cases h
        exact sm_W.ret (sm_C_mono D) rfl hQ
      · refine sm_W.run (sm_C_mono D) 2 (G := True) (fr' := (36, [some (.ref 41), some (.int x1), some (.int x2), some (.int x3), some (.int x4), some (.int x5), none, none], [.int x3], 0, 0)) (M' := (I, J, sm_rf t d)) rfl trivial ?_
        cases h
        exact sm_W.ret (sm_C_mono D) rfl hQ
    · refine sm_W.runL (sm_C_mono D) 6 (G := True) (e := ((x2 * (4 : Int32)) + x5)) (fr' := fun a1 => (15, [some (.ref 41), some (.int x1), some (.int x2), some (.int x3), some (.int x4), some (.int x5), some (.int a1), none], [], 0, 0)) (M' := fun _ => (I, J, sm_rf t d)) rfl h trivial (fun a1 h => ?_)
      refine sm_W.run (sm_C_mono D) 3 (G := True) (fr' := (18, [some (.ref 41), some (.int x1), some (.int x2), some (.int x3), some (.int x4), some (.int x5), some (.int a1), none], [.int x1, .int a1, .ref 41], 0, 0)) (M' := (I, J, sm_rf t d)) rfl trivial ?_
      obtain ⟨r2, hc, h⟩ := sd_q1_go h
      refine sm_W.cal (sm_C_mono D) (y := 90) (as := [.ref 41, .int a1, .int x1]) (fr' := (19, [some (.ref 41), some (.int x1), some (.int x2), some (.int x3), some (.int x4), some (.int x5), some (.int a1), none], [], 0, 0)) rfl (T_Valley_lackingIn (by omega) (by decide) hc ?_)
      show sm_W sm_sh X (sm_C sm_sh X sm_P D) me_14 Q (19, [some (.ref 41), some (.int x1), some (.int x2), some (.int x3), some (.int x4), some (.int x5), some (.int a1), none], [.int r2], 0, 0) (I, J, sm_rf t d)
      refine sm_W.run (sm_C_mono D) 3 (G := True) (fr' := (if decide (r2 ≤ 0) = true then 24 else 22, [some (.ref 41), some (.int x1), some (.int x2), some (.int x3), some (.int x4), some (.int x5), some (.int a1), some (.int r2)], [], 0, 0)) (M' := (I, J, sm_rf t d)) rfl trivial (sm_W.iteD h (fun hc h => ?_) (fun hc h => ?_))
      · exact sm_W.forget (L' := [some (.ref 41), some (.int x1), some (.int x2), some (.int x3), some (.int x4), some (.int x5), none, some (.int r2)]) ⟨rfl, ⟨rfl, ⟨rfl, ⟨rfl, ⟨rfl, ⟨rfl, ⟨rfl, trivial⟩⟩⟩⟩⟩⟩⟩ (G_Choir_rowLackingOne_24 hD (by decide) h hQ hk6)
      · refine sm_W.run (sm_C_mono D) 2 (G := True) (fr' := (24, [some (.ref 41), some (.int x1), some (.int x2), some (.int a1), some (.int x4), some (.int x5), some (.int a1), some (.int r2)], [], 0, 0)) (M' := (I, J, sm_rf t d)) rfl trivial ?_
        exact sm_W.forget (L' := [some (.ref 41), some (.int x1), some (.int x2), some (.int a1), some (.int x4), some (.int x5), none, some (.int r2)]) ⟨rfl, ⟨rfl, ⟨rfl, ⟨rfl, ⟨rfl, ⟨rfl, ⟨rfl, trivial⟩⟩⟩⟩⟩⟩⟩ (G_Choir_rowLackingOne_24 hD (by decide) h hQ hk6)
theorem G_Choir_rowLackingOne_6 {X : Nat × (Nat → Int32)} {t d D : Nat} {Q : sm_Q} {I : sm_MI} {J : sm_MJ} {p0 : Nat} {rz : Int32}
    (hD : 2 ≤ D) (hp : (p0 = 21) ∨ (p0 = 41)) (hQ : Q (.inl (some (.int rz))) (I, J, sm_rf t d))  : ∀ (n : Nat) (x1 : Int32) (x2 : Int32) (x3 : Int32) (x4 : Int32) (x5 : Int32), F_Choir_rowLackingOne_6 p0 I n x1 x2 x3 x4 x5 = some (rz) → sm_W sm_sh X (sm_C sm_sh X sm_P D) me_14 Q (6, [some (.ref p0), some (.int x1), some (.int x2), some (.int x3), some (.int x4), some (.int x5), none, none], [], 0, 0) (I, J, sm_rf t d) := by
  intro n
  induction n with
  | zero => intro x1 x2 x3 x4 x5 h; cases (show (none : Option (Int32)) = some (rz) from h)
  | succ n ih => intro x1 x2 x3 x4 x5 h; exact G_Choir_rowLackingOne_6B hD hp (show F_Choir_rowLackingOne_6B p0 (F_Choir_rowLackingOne_6 p0 I n) x1 x2 x3 x4 x5 I = some (rz) from h) hQ  ih
theorem G_Choir_rowLackingOne {X : Nat × (Nat → Int32)} {t d D : Nat} {Q : sm_Q} {I : sm_MI} {J : sm_MJ} {p0 : Nat} {x1 : Int32} {x2 : Int32} {rz : Int32}
    (hD : 2 ≤ D) (hp : (p0 = 21) ∨ (p0 = 41)) (h : F_Choir_rowLackingOne p0 x1 x2 I = some (rz)) (hQ : Q (.inl (some (.int rz))) (I, J, sm_rf t d))  : sm_W sm_sh X (sm_C sm_sh X sm_P D) me_14 Q (0, [some (.ref p0), some (.int x1), some (.int x2), none, none, none, none, none], [], 0, 0) (I, J, sm_rf t d) := by
  unfold F_Choir_rowLackingOne at h
  rcases hp with rfl | rfl
  · skip
    refine sm_W.run (sm_C_mono D) 6 (G := True) (fr' := (6, [some (.ref 21), some (.int x1), some (.int x2), some (.int (-1 : Int32)), some (.int (0 : Int32)), some (.int (0 : Int32)), none, none], [], 0, 0)) (M' := (I, J, sm_rf t d)) rfl trivial ?_
    exact (G_Choir_rowLackingOne_6 hD (by decide) hQ sd_fu _ _ _ _ _ h)
  · skip
    refine sm_W.run (sm_C_mono D) 6 (G := True) (fr' := (6, [some (.ref 41), some (.int x1), some (.int x2), some (.int (-1 : Int32)), some (.int (0 : Int32)), some (.int (0 : Int32)), none, none], [], 0, 0)) (M' := (I, J, sm_rf t d)) rfl trivial ?_
    exact (G_Choir_rowLackingOne_6 hD (by decide) hQ sd_fu _ _ _ _ _ h)
theorem T_Choir_rowLackingOne {X : Nat × (Nat → Int32)} {t d D : Nat} {Q : sm_Q} {I : sm_MI} {J : sm_MJ} {p0 : Nat} {x1 : Int32} {x2 : Int32} {rz : Int32}
    (hD : 3 ≤ D) (hp : (p0 = 21) ∨ (p0 = 41)) (h : F_Choir_rowLackingOne p0 x1 x2 I = some (rz)) (hQ : Q (.inl (some (.int rz))) (I, J, sm_rf t d)) : sm_C sm_sh X sm_P D 14 [.ref p0, .int x1, .int x2] (I, J, sm_rf t d) Q := by
  cases D with
  | zero => omega
  | succ D => exact sm_C.of (me := me_14) (L := [some (.ref p0), some (.int x1), some (.int x2), none, none, none, none, none]) rfl rfl rfl (sm_W.forget (L' := [some (.ref p0), some (.int x1), some (.int x2), none, none, none, none, none]) ⟨rfl, ⟨rfl, ⟨rfl, trivial⟩⟩⟩ (G_Choir_rowLackingOne (by omega) hp h hQ))
-- 91 Valley_stretch
noncomputable def F_Valley_stretch (p0 : Nat) (x1 : Int32) (x2 : Int32) (I : sm_MI) : Option (Int32) :=
  sd_gu (sm_in x2 14 = true) <|
  sd_gu (sm_in x1 20 = true) <|
  sd_q1 (F_Math_max (0 : Int32) ((I (p0 + 3) (Int32.toNatClampNeg x2)) - (I (p0 + 9) (Int32.toNatClampNeg x1)))) fun r3 =>
  sd_gu (sm_in x1 20 = true) <|
  sd_gu (sm_in x2 14 = true) <|
  sd_q1 (F_Math_max (0 : Int32) ((I (p0 + 10) (Int32.toNatClampNeg x1)) - (I (p0 + 4) (Int32.toNatClampNeg x2)))) fun r6 =>
  some ((r3 + r6))
theorem G_Valley_stretch {X : Nat × (Nat → Int32)} {t d D : Nat} {Q : sm_Q} {I : sm_MI} {J : sm_MJ} {p0 : Nat} {x1 : Int32} {x2 : Int32} {rz : Int32}
    (hD : 1 ≤ D) (hp : (p0 = 21) ∨ (p0 = 41)) (h : F_Valley_stretch p0 x1 x2 I = some (rz)) (hQ : Q (.inl (some (.int rz))) (I, J, sm_rf t d))  : sm_W sm_sh X (sm_C sm_sh X sm_P D) me_91 Q (0, [some (.ref p0), some (.int x1), some (.int x2)], [], 0, 0) (I, J, sm_rf t d) := by
  unfold F_Valley_stretch at h
  rcases hp with rfl | rfl
  · skip
    obtain ⟨g1, h⟩ := sd_gu_go h
    obtain ⟨g2, h⟩ := sd_gu_go h
    refine sm_W.run (sm_C_mono D) 10 (G := sm_in x2 14 = true ∧ sm_in x1 20 = true ∧ True) (fr' := (10, [some (.ref 21), some (.int x1), some (.int x2)], [.int ((I (21 + 3) (Int32.toNatClampNeg x2)) - (I (21 + 9) (Int32.toNatClampNeg x1))), .int (0 : Int32)], 0, 0)) (M' := (I, J, sm_rf t d)) rfl ⟨g1, g2, trivial⟩ ?_
    obtain ⟨r3, hc, h⟩ := sd_q1_go h
    refine sm_W.cal (sm_C_mono D) (y := 269) (as := [.int (0 : Int32), .int ((I (21 + 3) (Int32.toNatClampNeg x2)) - (I (21 + 9) (Int32.toNatClampNeg x1)))]) (fr' := (11, [some (.ref 21), some (.int x1), some (.int x2)], [], 0, 0)) rfl (T_Math_max (by omega) hc ?_)
    show sm_W sm_sh X (sm_C sm_sh X sm_P D) me_91 Q (11, [some (.ref 21), some (.int x1), some (.int x2)], [.int r3], 0, 0) (I, J, sm_rf t d)
    obtain ⟨g4, h⟩ := sd_gu_go h
    obtain ⟨g5, h⟩ := sd_gu_go h
    refine sm_W.run (sm_C_mono D) 10 (G := sm_in x1 20 = true ∧ sm_in x2 14 = true ∧ True) (fr' := (21, [some (.ref 21), some (.int x1), some (.int x2)], [.int ((I (21 + 10) (Int32.toNatClampNeg x1)) - (I (21 + 4) (Int32.toNatClampNeg x2))), .int (0 : Int32), .int r3], 0, 0)) (M' := (I, J, sm_rf t d)) rfl ⟨g4, g5, trivial⟩ ?_
    obtain ⟨r6, hc, h⟩ := sd_q1_go h
    refine sm_W.cal (sm_C_mono D) (y := 269) (as := [.int (0 : Int32), .int ((I (21 + 10) (Int32.toNatClampNeg x1)) - (I (21 + 4) (Int32.toNatClampNeg x2)))]) (fr' := (22, [some (.ref 21), some (.int x1), some (.int x2)], [.int r3], 0, 0)) rfl (T_Math_max (by omega) hc ?_)
    show sm_W sm_sh X (sm_C sm_sh X sm_P D) me_91 Q (22, [some (.ref 21), some (.int x1), some (.int x2)], [.int r6, .int r3], 0, 0) (I, J, sm_rf t d)
    refine sm_W.run (sm_C_mono D) 1 (G := True) (fr' := (23, [some (.ref 21), some (.int x1), some (.int x2)], [.int (r3 + r6)], 0, 0)) (M' := (I, J, sm_rf t d)) rfl trivial ?_
    cases h
    exact sm_W.ret (sm_C_mono D) rfl hQ
  · skip
    obtain ⟨g1, h⟩ := sd_gu_go h
    obtain ⟨g2, h⟩ := sd_gu_go h
    refine sm_W.run (sm_C_mono D) 10 (G := sm_in x2 14 = true ∧ sm_in x1 20 = true ∧ True) (fr' := (10, [some (.ref 41), some (.int x1), some (.int x2)], [.int ((I (41 + 3) (Int32.toNatClampNeg x2)) - (I (41 + 9) (Int32.toNatClampNeg x1))), .int (0 : Int32)], 0, 0)) (M' := (I, J, sm_rf t d)) rfl ⟨g1, g2, trivial⟩ ?_
    obtain ⟨r3, hc, h⟩ := sd_q1_go h
    refine sm_W.cal (sm_C_mono D) (y := 269) (as := [.int (0 : Int32), .int ((I (41 + 3) (Int32.toNatClampNeg x2)) - (I (41 + 9) (Int32.toNatClampNeg x1)))]) (fr' := (11, [some (.ref 41), some (.int x1), some (.int x2)], [], 0, 0)) rfl (T_Math_max (by omega) hc ?_)
    show sm_W sm_sh X (sm_C sm_sh X sm_P D) me_91 Q (11, [some (.ref 41), some (.int x1), some (.int x2)], [.int r3], 0, 0) (I, J, sm_rf t d)
    obtain ⟨g4, h⟩ := sd_gu_go h
    obtain ⟨g5, h⟩ := sd_gu_go h
    refine sm_W.run (sm_C_mono D) 10 (G := sm_in x1 20 = true ∧ sm_in x2 14 = true ∧ True) (fr' := (21, [some (.ref 41), some (.int x1), some (.int x2)], [.int ((I (41 + 10) (Int32.toNatClampNeg x1)) - (I (41 + 4) (Int32.toNatClampNeg x2))), .int (0 : Int32), .int r3], 0, 0)) (M' := (I, J, sm_rf t d)) rfl ⟨g4, g5, trivial⟩ ?_
    obtain ⟨r6, hc, h⟩ := sd_q1_go h
    refine sm_W.cal (sm_C_mono D) (y := 269) (as := [.int (0 : Int32), .int ((I (41 + 10) (Int32.toNatClampNeg x1)) - (I (41 + 4) (Int32.toNatClampNeg x2)))]) (fr' := (22, [some (.ref 41), some (.int x1), some (.int x2)], [.int r3], 0, 0)) rfl (T_Math_max (by omega) hc ?_)
    show sm_W sm_sh X (sm_C sm_sh X sm_P D) me_91 Q (22, [some (.ref 41), some (.int x1), some (.int x2)], [.int r6, .int r3], 0, 0) (I, J, sm_rf t d)
    refine sm_W.run (sm_C_mono D) 1 (G := True) (fr' := (23, [some (.ref 41), some (.int x1), some (.int x2)], [.int (r3 + r6)], 0, 0)) (M' := (I, J, sm_rf t d)) rfl trivial ?_
    cases h
    exact sm_W.ret (sm_C_mono D) rfl hQ
theorem T_Valley_stretch {X : Nat × (Nat → Int32)} {t d D : Nat} {Q : sm_Q} {I : sm_MI} {J : sm_MJ} {p0 : Nat} {x1 : Int32} {x2 : Int32} {rz : Int32}
    (hD : 2 ≤ D) (hp : (p0 = 21) ∨ (p0 = 41)) (h : F_Valley_stretch p0 x1 x2 I = some (rz)) (hQ : Q (.inl (some (.int rz))) (I, J, sm_rf t d)) : sm_C sm_sh X sm_P D 91 [.ref p0, .int x1, .int x2] (I, J, sm_rf t d) Q := by
  cases D with
  | zero => omega
  | succ D => exact sm_C.of (me := me_91) (L := [some (.ref p0), some (.int x1), some (.int x2)]) rfl rfl rfl (sm_W.forget (L' := [some (.ref p0), some (.int x1), some (.int x2)]) ⟨rfl, ⟨rfl, ⟨rfl, trivial⟩⟩⟩ (G_Valley_stretch (by omega) hp h hQ))
-- 15 Choir_easiestToWiden
noncomputable def F_Choir_easiestToWiden_21B (p0 : Nat) (k21 : Int32 → Int32 → Int32 → Int32 → Int32 → Option (Int32)) (x2 : Int32) (x3 : Int32) (x4 : Int32) (x5 : Int32) (x6 : Int32) (I : sm_MI) : Option (Int32) :=
  if (14 : Int32) ≤ x6 then
    some (x4)
  else
    if ((x3 >>> (x6 &&& 31)) &&& (1 : Int32)) = 0 then
      k21 x2 x3 x4 x5 (x6 + (1 : Int32))
    else
      sd_q1 (F_Valley_stretch p0 x2 x6 I) fun r1 =>
      if x5 ≤ r1 then
        k21 x2 x3 x4 x5 (x6 + (1 : Int32))
      else
        sd_q1 (F_Valley_stretch p0 x2 x6 I) fun r2 =>
        k21 x2 x3 x6 r2 (x6 + (1 : Int32))
noncomputable def F_Choir_easiestToWiden_21 (p0 : Nat) (I : sm_MI) (n : Nat) : Int32 → Int32 → Int32 → Int32 → Int32 → Option (Int32) :=
  sd_fix (fun k x2 x3 x4 x5 x6 => F_Choir_easiestToWiden_21B p0 k x2 x3 x4 x5 x6 I) (fun _ _ _ _ _ => none) n
noncomputable def F_Choir_easiestToWiden (p0 : Nat) (x1 : Int32) (x2 : Int32) (I : sm_MI) : Option (Int32) :=
  sd_gu (¬ (4 : Int32) = 0) <|
  sd_q1 (F_Valley_ofPart p0 (sd_mod x2 (4 : Int32)) I) fun r2 =>
  sd_gu (sm_in x2 20 = true) <|
  sd_lt ((r2 &&& x1) &&& ((I (p0 + 11) (Int32.toNatClampNeg x2)) ^^^ (-1 : Int32))) fun a4 =>
  F_Choir_easiestToWiden_21 p0 I sd_fu x2 a4 (-1 : Int32) (1000 : Int32) (0 : Int32)
theorem G_Choir_easiestToWiden_21B {X : Nat × (Nat → Int32)} {t d D : Nat} {Q : sm_Q} {I : sm_MI} {J : sm_MJ} {p0 : Nat} {k21 : Int32 → Int32 → Int32 → Int32 → Int32 → Option (Int32)} {x2 : Int32} {x3 : Int32} {x4 : Int32} {x5 : Int32} {x6 : Int32} {rz : Int32}
    (hD : 2 ≤ D) (hp : (p0 = 21) ∨ (p0 = 41)) (h : F_Choir_easiestToWiden_21B p0 k21 x2 x3 x4 x5 x6 I = some (rz)) (hQ : Q (.inl (some (.int rz))) (I, J, sm_rf t d)) (hk21 : ∀ (x2 : Int32) (x3 : Int32) (x4 : Int32) (x5 : Int32) (x6 : Int32), k21 x2 x3 x4 x5 x6 = some (rz) → sm_W sm_sh X (sm_C sm_sh X sm_P D) me_15 Q (21, [some (.ref p0), none, some (.int x2), some (.int x3), some (.int x4), some (.int x5), some (.int x6)], [], 0, 0) (I, J, sm_rf t d)) : sm_W sm_sh X (sm_C sm_sh X sm_P D) me_15 Q (21, [some (.ref p0), none, some (.int x2), some (.int x3), some (.int x4), some (.int x5), some (.int x6)], [], 0, 0) (I, J, sm_rf t d) := by
  unfold F_Choir_easiestToWiden_21B at h
  rcases hp with rfl | rfl
  · skip
    refine sm_W.run (sm_C_mono D) 3 (G := True) (fr' := (if decide ((14 : Int32) ≤ x6) = true then 45 else 24, [some (.ref 21), none, some (.int x2), some (.int x3), some (.int x4), some (.int x5), some (.int x6)], [], 0, 0)) (M' := (I, J, sm_rf t d)) rfl trivial (sm_W.iteD h (fun hc h => ?_) (fun hc h => ?_))
    · refine sm_W.run (sm_C_mono D) 1 (G := True) (fr' := (46, [some (.ref 21), none, some (.int x2), some (.int x3), some (.int x4), some (.int x5), some (.int x6)], [.int x4], 0, 0)) (M' := (I, J, sm_rf t d)) rfl trivial ?_
      cases h
      exact sm_W.ret (sm_C_mono D) rfl hQ
    · refine sm_W.run (sm_C_mono D) 6 (G := True) (fr' := (if decide (((x3 >>> (x6 &&& 31)) &&& (1 : Int32)) = 0) = true then 43 else 30, [some (.ref 21), none, some (.int x2), some (.int x3), some (.int x4), some (.int x5), some (.int x6)], [], 0, 0)) (M' := (I, J, sm_rf t d)) rfl trivial (sm_W.iteD h (fun hc h => ?_) (fun hc h => ?_))
      · refine sm_W.run (sm_C_mono D) 2 (G := True) (fr' := (21, [some (.ref 21), none, some (.int x2), some (.int x3), some (.int x4), some (.int x5), some (.int (x6 + (1 : Int32)))], [], 0, 0)) (M' := (I, J, sm_rf t d)) rfl trivial ?_
        exact (hk21 _ _ _ _ _ h)
      · refine sm_W.run (sm_C_mono D) 3 (G := True) (fr' := (33, [some (.ref 21), none, some (.int x2), some (.int x3), some (.int x4), some (.int x5), some (.int x6)], [.int x6, .int x2, .ref 21], 0, 0)) (M' := (I, J, sm_rf t d)) rfl trivial ?_
        obtain ⟨r1, hc, h⟩ := sd_q1_go h
        refine sm_W.cal (sm_C_mono D) (y := 91) (as := [.ref 21, .int x2, .int x6]) (fr' := (34, [some (.ref 21), none, some (.int x2), some (.int x3), some (.int x4), some (.int x5), some (.int x6)], [], 0, 0)) rfl (T_Valley_stretch (by omega) (by decide) hc ?_)
        show sm_W sm_sh X (sm_C sm_sh X sm_P D) me_15 Q (34, [some (.ref 21), none, some (.int x2), some (.int x3), some (.int x4), some (.int x5), some (.int x6)], [.int r1], 0, 0) (I, J, sm_rf t d)
        refine sm_W.run (sm_C_mono D) 2 (G := True) (fr' := (if decide (x5 ≤ r1) = true then 43 else 36, [some (.ref 21), none, some (.int x2), some (.int x3), some (.int x4), some (.int x5), some (.int x6)], [], 0, 0)) (M' := (I, J, sm_rf t d)) rfl trivial (sm_W.iteD h (fun hc h => ?_) (fun hc h => ?_))
        · refine sm_W.run (sm_C_mono D) 2 (G := True) (fr' := (21, [some (.ref 21), none, some (.int x2), some (.int x3), some (.int x4), some (.int x5), some (.int (x6 + (1 : Int32)))], [], 0, 0)) (M' := (I, J, sm_rf t d)) rfl trivial ?_
          exact (hk21 _ _ _ _ _ h)
        · refine sm_W.run (sm_C_mono D) 5 (G := True) (fr' := (41, [some (.ref 21), none, some (.int x2), some (.int x3), some (.int x6), some (.int x5), some (.int x6)], [.int x6, .int x2, .ref 21], 0, 0)) (M' := (I, J, sm_rf t d)) rfl trivial ?_
          obtain ⟨r2, hc, h⟩ := sd_q1_go h
          refine sm_W.cal (sm_C_mono D) (y := 91) (as := [.ref 21, .int x2, .int x6]) (fr' := (42, [some (.ref 21), none, some (.int x2), some (.int x3), some (.int x6), some (.int x5), some (.int x6)], [], 0, 0)) rfl (T_Valley_stretch (by omega) (by decide) hc ?_)
          show sm_W sm_sh X (sm_C sm_sh X sm_P D) me_15 Q (42, [some (.ref 21), none, some (.int x2), some (.int x3), some (.int x6), some (.int x5), some (.int x6)], [.int r2], 0, 0) (I, J, sm_rf t d)
          refine sm_W.run (sm_C_mono D) 3 (G := True) (fr' := (21, [some (.ref 21), none, some (.int x2), some (.int x3), some (.int x6), some (.int r2), some (.int (x6 + (1 : Int32)))], [], 0, 0)) (M' := (I, J, sm_rf t d)) rfl trivial ?_
          exact (hk21 _ _ _ _ _ h)
  · skip
    refine sm_W.run (sm_C_mono D) 3 (G := True) (fr' := (if decide ((14 : Int32) ≤ x6) = true then 45 else 24, [some (.ref 41), none, some (.int x2), some (.int x3), some (.int x4), some (.int x5), some (.int x6)], [], 0, 0)) (M' := (I, J, sm_rf t d)) rfl trivial (sm_W.iteD h (fun hc h => ?_) (fun hc h => ?_))
    · refine sm_W.run (sm_C_mono D) 1 (G := True) (fr' := (46, [some (.ref 41), none, some (.int x2), some (.int x3), some (.int x4), some (.int x5), some (.int x6)], [.int x4], 0, 0)) (M' := (I, J, sm_rf t d)) rfl trivial ?_
      cases h
      exact sm_W.ret (sm_C_mono D) rfl hQ
    · refine sm_W.run (sm_C_mono D) 6 (G := True) (fr' := (if decide (((x3 >>> (x6 &&& 31)) &&& (1 : Int32)) = 0) = true then 43 else 30, [some (.ref 41), none, some (.int x2), some (.int x3), some (.int x4), some (.int x5), some (.int x6)], [], 0, 0)) (M' := (I, J, sm_rf t d)) rfl trivial (sm_W.iteD h (fun hc h => ?_) (fun hc h => ?_))
      · refine sm_W.run (sm_C_mono D) 2 (G := True) (fr' := (21, [some (.ref 41), none, some (.int x2), some (.int x3), some (.int x4), some (.int x5), some (.int (x6 + (1 : Int32)))], [], 0, 0)) (M' := (I, J, sm_rf t d)) rfl trivial ?_
        exact (hk21 _ _ _ _ _ h)
      · refine sm_W.run (sm_C_mono D) 3 (G := True) (fr' := (33, [some (.ref 41), none, some (.int x2), some (.int x3), some (.int x4), some (.int x5), some (.int x6)], [.int x6, .int x2, .ref 41], 0, 0)) (M' := (I, J, sm_rf t d)) rfl trivial ?_
        obtain ⟨r1, hc, h⟩ := sd_q1_go h
        refine sm_W.cal (sm_C_mono D) (y := 91) (as := [.ref 41, .int x2, .int x6]) (fr' := (34, [some (.ref 41), none, some (.int x2), some (.int x3), some (.int x4), some (.int x5), some (.int x6)], [], 0, 0)) rfl (T_Valley_stretch (by omega) (by decide) hc ?_)
        show sm_W sm_sh X (sm_C sm_sh X sm_P D) me_15 Q (34, [some (.ref 41), none, some (.int x2), some (.int x3), some (.int x4), some (.int x5), some (.int x6)], [.int r1], 0, 0) (I, J, sm_rf t d)
        refine sm_W.run (sm_C_mono D) 2 (G := True) (fr' := (if decide (x5 ≤ r1) = true then 43 else 36, [some (.ref 41), none, some (.int x2), some (.int x3), some (.int x4), some (.int x5), some (.int x6)], [], 0, 0)) (M' := (I, J, sm_rf t d)) rfl trivial (sm_W.iteD h (fun hc h => ?_) (fun hc h => ?_))
        · refine sm_W.run (sm_C_mono D) 2 (G := True) (fr' := (21, [some (.ref 41), none, some (.int x2), some (.int x3), some (.int x4), some (.int x5), some (.int (x6 + (1 : Int32)))], [], 0, 0)) (M' := (I, J, sm_rf t d)) rfl trivial ?_
          exact (hk21 _ _ _ _ _ h)
        · refine sm_W.run (sm_C_mono D) 5 (G := True) (fr' := (41, [some (.ref 41), none, some (.int x2), some (.int x3), some (.int x6), some (.int x5), some (.int x6)], [.int x6, .int x2, .ref 41], 0, 0)) (M' := (I, J, sm_rf t d)) rfl trivial ?_
          obtain ⟨r2, hc, h⟩ := sd_q1_go h
          refine sm_W.cal (sm_C_mono D) (y := 91) (as := [.ref 41, .int x2, .int x6]) (fr' := (42, [some (.ref 41), none, some (.int x2), some (.int x3), some (.int x6), some (.int x5), some (.int x6)], [], 0, 0)) rfl (T_Valley_stretch (by omega) (by decide) hc ?_)
          show sm_W sm_sh X (sm_C sm_sh X sm_P D) me_15 Q (42, [some (.ref 41), none, some (.int x2), some (.int x3), some (.int x6), some (.int x5), some (.int x6)], [.int r2], 0, 0) (I, J, sm_rf t d)
          refine sm_W.run (sm_C_mono D) 3 (G := True) (fr' := (21, [some (.ref 41), none, some (.int x2), some (.int x3), some (.int x6), some (.int r2), some (.int (x6 + (1 : Int32)))], [], 0, 0)) (M' := (I, J, sm_rf t d)) rfl trivial ?_
          exact (hk21 _ _ _ _ _ h)
theorem G_Choir_easiestToWiden_21 {X : Nat × (Nat → Int32)} {t d D : Nat} {Q : sm_Q} {I : sm_MI} {J : sm_MJ} {p0 : Nat} {rz : Int32}
    (hD : 2 ≤ D) (hp : (p0 = 21) ∨ (p0 = 41)) (hQ : Q (.inl (some (.int rz))) (I, J, sm_rf t d))  : ∀ (n : Nat) (x2 : Int32) (x3 : Int32) (x4 : Int32) (x5 : Int32) (x6 : Int32), F_Choir_easiestToWiden_21 p0 I n x2 x3 x4 x5 x6 = some (rz) → sm_W sm_sh X (sm_C sm_sh X sm_P D) me_15 Q (21, [some (.ref p0), none, some (.int x2), some (.int x3), some (.int x4), some (.int x5), some (.int x6)], [], 0, 0) (I, J, sm_rf t d) := by
  intro n
  induction n with
  | zero => intro x2 x3 x4 x5 x6 h; cases (show (none : Option (Int32)) = some (rz) from h)
  | succ n ih => intro x2 x3 x4 x5 x6 h; exact G_Choir_easiestToWiden_21B hD hp (show F_Choir_easiestToWiden_21B p0 (F_Choir_easiestToWiden_21 p0 I n) x2 x3 x4 x5 x6 I = some (rz) from h) hQ  ih
theorem G_Choir_easiestToWiden {X : Nat × (Nat → Int32)} {t d D : Nat} {Q : sm_Q} {I : sm_MI} {J : sm_MJ} {p0 : Nat} {x1 : Int32} {x2 : Int32} {rz : Int32}
    (hD : 2 ≤ D) (hp : (p0 = 21) ∨ (p0 = 41)) (h : F_Choir_easiestToWiden p0 x1 x2 I = some (rz)) (hQ : Q (.inl (some (.int rz))) (I, J, sm_rf t d))  : sm_W sm_sh X (sm_C sm_sh X sm_P D) me_15 Q (0, [some (.ref p0), some (.int x1), some (.int x2), none, none, none, none], [], 0, 0) (I, J, sm_rf t d) := by
  unfold F_Choir_easiestToWiden at h
  rcases hp with rfl | rfl
  · skip
    obtain ⟨g1, h⟩ := sd_gu_go h
    refine sm_W.run (sm_C_mono D) 4 (G := ¬ (4 : Int32) = 0 ∧ True) (fr' := (4, [some (.ref 21), some (.int x1), some (.int x2), none, none, none, none], [.int (sd_mod x2 (4 : Int32)), .ref 21], 0, 0)) (M' := (I, J, sm_rf t d)) rfl ⟨g1, trivial⟩ ?_
    obtain ⟨r2, hc, h⟩ := sd_q1_go h
    refine sm_W.cal (sm_C_mono D) (y := 84) (as := [.ref 21, .int (sd_mod x2 (4 : Int32))]) (fr' := (5, [some (.ref 21), some (.int x1), some (.int x2), none, none, none, none], [], 0, 0)) rfl (T_Valley_ofPart (by omega) (by decide) hc ?_)
    show sm_W sm_sh X (sm_C sm_sh X sm_P D) me_15 Q (5, [some (.ref 21), some (.int x1), some (.int x2), none, none, none, none], [.int r2], 0, 0) (I, J, sm_rf t d)
    obtain ⟨g3, h⟩ := sd_gu_go h
    refine sm_W.runL (sm_C_mono D) 10 (G := sm_in x2 20 = true ∧ True) (e := ((r2 &&& x1) &&& ((I (21 + 11) (Int32.toNatClampNeg x2)) ^^^ (-1 : Int32)))) (fr' := fun a4 => (15, [some (.ref 21), some (.int x1), some (.int x2), some (.int a4), none, none, none], [], 0, 0)) (M' := fun _ => (I, J, sm_rf t d)) rfl h ⟨g3, trivial⟩ (fun a4 h => ?_)
    refine sm_W.run (sm_C_mono D) 6 (G := True) (fr' := (21, [some (.ref 21), some (.int x1), some (.int x2), some (.int a4), some (.int (-1 : Int32)), some (.int (1000 : Int32)), some (.int (0 : Int32))], [], 0, 0)) (M' := (I, J, sm_rf t d)) rfl trivial ?_
    exact sm_W.forget (L' := [some (.ref 21), none, some (.int x2), some (.int a4), some (.int (-1 : Int32)), some (.int (1000 : Int32)), some (.int (0 : Int32))]) ⟨rfl, ⟨rfl, ⟨rfl, ⟨rfl, ⟨rfl, ⟨rfl, trivial⟩⟩⟩⟩⟩⟩ (G_Choir_easiestToWiden_21 hD (by decide) hQ sd_fu _ _ _ _ _ h)
  · skip
    obtain ⟨g1, h⟩ := sd_gu_go h
    refine sm_W.run (sm_C_mono D) 4 (G := ¬ (4 : Int32) = 0 ∧ True) (fr' := (4, [some (.ref 41), some (.int x1), some (.int x2), none, none, none, none], [.int (sd_mod x2 (4 : Int32)), .ref 41], 0, 0)) (M' := (I, J, sm_rf t d)) rfl ⟨g1, trivial⟩ ?_
    obtain ⟨r2, hc, h⟩ := sd_q1_go h
    refine sm_W.cal (sm_C_mono D) (y := 84) (as := [.ref 41, .int (sd_mod x2 (4 : Int32))]) (fr' := (5, [some (.ref 41), some (.int x1), some (.int x2), none, none, none, none], [], 0, 0)) rfl (T_Valley_ofPart (by omega) (by decide) hc ?_)
    show sm_W sm_sh X (sm_C sm_sh X sm_P D) me_15 Q (5, [some (.ref 41), some (.int x1), some (.int x2), none, none, none, none], [.int r2], 0, 0) (I, J, sm_rf t d)
    obtain ⟨g3, h⟩ := sd_gu_go h
    refine sm_W.runL (sm_C_mono D) 10 (G := sm_in x2 20 = true ∧ True) (e := ((r2 &&& x1) &&& ((I (41 + 11) (Int32.toNatClampNeg x2)) ^^^ (-1 : Int32)))) (fr' := fun a4 => (15, [some (.ref 41), some (.int x1), some (.int x2), some (.int a4), none, none, none], [], 0, 0)) (M' := fun _ => (I, J, sm_rf t d)) rfl h ⟨g3, trivial⟩ (fun a4 h => ?_)
    refine sm_W.run (sm_C_mono D) 6 (G := True) (fr' := (21, [some (.ref 41), some (.int x1), some (.int x2), some (.int a4), some (.int (-1 : Int32)), some (.int (1000 : Int32)), some (.int (0 : Int32))], [], 0, 0)) (M' := (I, J, sm_rf t d)) rfl trivial ?_
    exact sm_W.forget (L' := [some (.ref 41), none, some (.int x2), some (.int a4), some (.int (-1 : Int32)), some (.int (1000 : Int32)), some (.int (0 : Int32))]) ⟨rfl, ⟨rfl, ⟨rfl, ⟨rfl, ⟨rfl, ⟨rfl, trivial⟩⟩⟩⟩⟩⟩ (G_Choir_easiestToWiden_21 hD (by decide) hQ sd_fu _ _ _ _ _ h)
theorem T_Choir_easiestToWiden {X : Nat × (Nat → Int32)} {t d D : Nat} {Q : sm_Q} {I : sm_MI} {J : sm_MJ} {p0 : Nat} {x1 : Int32} {x2 : Int32} {rz : Int32}
    (hD : 3 ≤ D) (hp : (p0 = 21) ∨ (p0 = 41)) (h : F_Choir_easiestToWiden p0 x1 x2 I = some (rz)) (hQ : Q (.inl (some (.int rz))) (I, J, sm_rf t d)) : sm_C sm_sh X sm_P D 15 [.ref p0, .int x1, .int x2] (I, J, sm_rf t d) Q := by
  cases D with
  | zero => omega
  | succ D => exact sm_C.of (me := me_15) (L := [some (.ref p0), some (.int x1), some (.int x2), none, none, none, none]) rfl rfl rfl (sm_W.forget (L' := [some (.ref p0), some (.int x1), some (.int x2), none, none, none, none]) ⟨rfl, ⟨rfl, ⟨rfl, trivial⟩⟩⟩ (G_Choir_easiestToWiden (by omega) hp h hQ))
-- 17 Choir_multiply
noncomputable def F_Choir_multiply_32 (k5 : Int32 → Int32 → Int32 → sm_MI → Option (sm_MI)) (x1 : Int32) (x2 : Int32) (x3 : Int32) (x4 : Int64) (I : sm_MI) : Option (sm_MI) :=
  sd_gu (sm_in x3 15 = true) <|
  sd_lt (sd_up I 2 (Int32.toNatClampNeg x3) (Int64.toInt32 x4)) fun I2 =>
  k5 x1 x2 (x3 + (-1 : Int32)) I2
noncomputable def F_Choir_multiply_11B (k5 : Int32 → Int32 → Int32 → sm_MI → Option (sm_MI)) (k11 : Int32 → Int32 → Int32 → Int64 → Int32 → sm_MI → Option (sm_MI)) (x1 : Int32) (x2 : Int32) (x3 : Int32) (x4 : Int64) (x6 : Int32) (I : sm_MI) : Option (sm_MI) :=
  if x3 < x6 then
    F_Choir_multiply_32 k5 x1 x2 x3 x4 I
  else
    if x2 < x6 then
      F_Choir_multiply_32 k5 x1 x2 x3 x4 I
    else
      sd_gu (sm_in (x3 - x6) 15 = true) <|
      sd_q1 (F_Count_choose x1 x6) fun r2 =>
      sd_lt (x4 + ((Int32.toInt64 (I 2 (Int32.toNatClampNeg (x3 - x6)))) * r2)) fun a3 =>
      k11 x1 x2 x3 a3 (x6 + (1 : Int32)) I
noncomputable def F_Choir_multiply_11 (k5 : Int32 → Int32 → Int32 → sm_MI → Option (sm_MI)) (n : Nat) : Int32 → Int32 → Int32 → Int64 → Int32 → sm_MI → Option (sm_MI) :=
  sd_fix (fun k x1 x2 x3 x4 x6 I => F_Choir_multiply_11B k5 k x1 x2 x3 x4 x6 I) (fun _ _ _ _ _ _ => none) n
noncomputable def F_Choir_multiply_5B (k5 : Int32 → Int32 → Int32 → sm_MI → Option (sm_MI)) (x1 : Int32) (x2 : Int32) (x3 : Int32) (I : sm_MI) : Option (sm_MI) :=
  if x3 < 0 then
    some (I)
  else
    F_Choir_multiply_11 k5 sd_fu x1 x2 x3 (0 : Int64) (0 : Int32) I
noncomputable def F_Choir_multiply_5  (n : Nat) : Int32 → Int32 → Int32 → sm_MI → Option (sm_MI) :=
  sd_fix (fun k x1 x2 x3 I => F_Choir_multiply_5B k x1 x2 x3 I) (fun _ _ _ _ => none) n
noncomputable def F_Choir_multiply (x1 : Int32) (x2 : Int32) (I : sm_MI) : Option (sm_MI) :=
  sd_lt ((15 : Int32) - (1 : Int32)) fun a1 =>
  F_Choir_multiply_5 sd_fu x1 x2 a1 I
theorem G_Choir_multiply_32 {X : Nat × (Nat → Int32)} {t d D : Nat} {Q : sm_Q} {I : sm_MI} {J : sm_MJ} {k5 : Int32 → Int32 → Int32 → sm_MI → Option (sm_MI)} {x1 : Int32} {x2 : Int32} {x3 : Int32} {x4 : Int64} {Iz : sm_MI}
    (hD : 1 ≤ D) (h : F_Choir_multiply_32 k5 x1 x2 x3 x4 I = some (Iz)) (hQ : Q (.inl none) (Iz, J, sm_rf t d)) (hk5 : ∀ (x1 : Int32) (x2 : Int32) (x3 : Int32) (I : sm_MI), k5 x1 x2 x3 I = some (Iz) → sm_W sm_sh X (sm_C sm_sh X sm_P D) me_17 Q (5, [some (.ref 2), some (.int x1), some (.int x2), some (.int x3), none, none, none], [], 0, 0) (I, J, sm_rf t d)) : sm_W sm_sh X (sm_C sm_sh X sm_P D) me_17 Q (32, [some (.ref 2), some (.int x1), some (.int x2), some (.int x3), some (.long x4), none, none], [], 0, 0) (I, J, sm_rf t d) := by
  unfold F_Choir_multiply_32 at h
  obtain ⟨g1, h⟩ := sd_gu_go h
  refine sm_W.runL (sm_C_mono D) 5 (G := sm_in x3 15 = true ∧ True) (e := (sd_up I 2 (Int32.toNatClampNeg x3) (Int64.toInt32 x4))) (fr' := fun _ => (37, [some (.ref 2), some (.int x1), some (.int x2), some (.int x3), some (.long x4), none, none], [], 0, 0)) (M' := fun I2 => (I2, J, sm_rf t d)) rfl h ⟨g1, trivial⟩ (fun I2 h => ?_)
  refine sm_W.run (sm_C_mono D) 2 (G := True) (fr' := (5, [some (.ref 2), some (.int x1), some (.int x2), some (.int (x3 + (-1 : Int32))), some (.long x4), none, none], [], 0, 0)) (M' := (I2, J, sm_rf t d)) rfl trivial ?_
  exact sm_W.forget (L' := [some (.ref 2), some (.int x1), some (.int x2), some (.int (x3 + (-1 : Int32))), none, none, none]) ⟨rfl, ⟨rfl, ⟨rfl, ⟨rfl, trivial⟩⟩⟩⟩ (hk5 _ _ _ _ h)
theorem G_Choir_multiply_11B {X : Nat × (Nat → Int32)} {t d D : Nat} {Q : sm_Q} {I : sm_MI} {J : sm_MJ} {k5 : Int32 → Int32 → Int32 → sm_MI → Option (sm_MI)} {k11 : Int32 → Int32 → Int32 → Int64 → Int32 → sm_MI → Option (sm_MI)} {x1 : Int32} {x2 : Int32} {x3 : Int32} {x4 : Int64} {x6 : Int32} {Iz : sm_MI}
    (hD : 1 ≤ D) (h : F_Choir_multiply_11B k5 k11 x1 x2 x3 x4 x6 I = some (Iz)) (hQ : Q (.inl none) (Iz, J, sm_rf t d)) (hk5 : ∀ (x1 : Int32) (x2 : Int32) (x3 : Int32) (I : sm_MI), k5 x1 x2 x3 I = some (Iz) → sm_W sm_sh X (sm_C sm_sh X sm_P D) me_17 Q (5, [some (.ref 2), some (.int x1), some (.int x2), some (.int x3), none, none, none], [], 0, 0) (I, J, sm_rf t d)) (hk11 : ∀ (x1 : Int32) (x2 : Int32) (x3 : Int32) (x4 : Int64) (x6 : Int32) (I : sm_MI), k11 x1 x2 x3 x4 x6 I = some (Iz) → sm_W sm_sh X (sm_C sm_sh X sm_P D) me_17 Q (11, [some (.ref 2), some (.int x1), some (.int x2), some (.int x3), some (.long x4), none, some (.int x6)], [], 0, 0) (I, J, sm_rf t d)) : sm_W sm_sh X (sm_C sm_sh X sm_P D) me_17 Q (11, [some (.ref 2), some (.int x1), some (.int x2), some (.int x3), some (.long x4), none, some (.int x6)], [], 0, 0) (I, J, sm_rf t d) := by
  unfold F_Choir_multiply_11B at h
  refine sm_W.run (sm_C_mono D) 3 (G := True) (fr' := (if decide (x3 < x6) = true then 32 else 14, [some (.ref 2), some (.int x1), some (.int x2), some (.int x3), some (.long x4), none, some (.int x6)], [], 0, 0)) (M' := (I, J, sm_rf t d)) rfl trivial (sm_W.iteD h (fun hc h => ?_) (fun hc h => ?_))
  · exact sm_W.forget (L' := [some (.ref 2), some (.int x1), some (.int x2), some (.int x3), some (.long x4), none, none]) ⟨rfl, ⟨rfl, ⟨rfl, ⟨rfl, ⟨rfl, trivial⟩⟩⟩⟩⟩ (G_Choir_multiply_32 hD h hQ hk5)
  · refine sm_W.run (sm_C_mono D) 3 (G := True) (fr' := (if decide (x2 < x6) = true then 32 else 17, [some (.ref 2), some (.int x1), some (.int x2), some (.int x3), some (.long x4), none, some (.int x6)], [], 0, 0)) (M' := (I, J, sm_rf t d)) rfl trivial (sm_W.iteD h (fun hc h => ?_) (fun hc h => ?_))
    · exact sm_W.forget (L' := [some (.ref 2), some (.int x1), some (.int x2), some (.int x3), some (.long x4), none, none]) ⟨rfl, ⟨rfl, ⟨rfl, ⟨rfl, ⟨rfl, trivial⟩⟩⟩⟩⟩ (G_Choir_multiply_32 hD h hQ hk5)
    · obtain ⟨g1, h⟩ := sd_gu_go h
      refine sm_W.run (sm_C_mono D) 9 (G := sm_in (x3 - x6) 15 = true ∧ True) (fr' := (26, [some (.ref 2), some (.int x1), some (.int x2), some (.int x3), some (.long x4), none, some (.int x6)], [.int x6, .int x1, .long (Int32.toInt64 (I 2 (Int32.toNatClampNeg (x3 - x6)))), .long x4], 0, 0)) (M' := (I, J, sm_rf t d)) rfl ⟨g1, trivial⟩ ?_
      obtain ⟨r2, hc, h⟩ := sd_q1_go h
      refine sm_W.cal (sm_C_mono D) (y := 23) (as := [.int x1, .int x6]) (fr' := (27, [some (.ref 2), some (.int x1), some (.int x2), some (.int x3), some (.long x4), none, some (.int x6)], [.long (Int32.toInt64 (I 2 (Int32.toNatClampNeg (x3 - x6)))), .long x4], 0, 0)) rfl (T_Count_choose (by omega) hc ?_)
      show sm_W sm_sh X (sm_C sm_sh X sm_P D) me_17 Q (27, [some (.ref 2), some (.int x1), some (.int x2), some (.int x3), some (.long x4), none, some (.int x6)], [.long r2, .long (Int32.toInt64 (I 2 (Int32.toNatClampNeg (x3 - x6)))), .long x4], 0, 0) (I, J, sm_rf t d)
      refine sm_W.runL (sm_C_mono D) 3 (G := True) (e := (x4 + ((Int32.toInt64 (I 2 (Int32.toNatClampNeg (x3 - x6)))) * r2))) (fr' := fun a3 => (30, [some (.ref 2), some (.int x1), some (.int x2), some (.int x3), some (.long a3), none, some (.int x6)], [], 0, 0)) (M' := fun _ => (I, J, sm_rf t d)) rfl h trivial (fun a3 h => ?_)
      refine sm_W.run (sm_C_mono D) 2 (G := True) (fr' := (11, [some (.ref 2), some (.int x1), some (.int x2), some (.int x3), some (.long a3), none, some (.int (x6 + (1 : Int32)))], [], 0, 0)) (M' := (I, J, sm_rf t d)) rfl trivial ?_
      exact (hk11 _ _ _ _ _ _ h)
theorem G_Choir_multiply_11 {X : Nat × (Nat → Int32)} {t d D : Nat} {Q : sm_Q} {J : sm_MJ} {k5 : Int32 → Int32 → Int32 → sm_MI → Option (sm_MI)} {Iz : sm_MI}
    (hD : 1 ≤ D) (hQ : Q (.inl none) (Iz, J, sm_rf t d)) (hk5 : ∀ (x1 : Int32) (x2 : Int32) (x3 : Int32) (I : sm_MI), k5 x1 x2 x3 I = some (Iz) → sm_W sm_sh X (sm_C sm_sh X sm_P D) me_17 Q (5, [some (.ref 2), some (.int x1), some (.int x2), some (.int x3), none, none, none], [], 0, 0) (I, J, sm_rf t d)) : ∀ (n : Nat) (x1 : Int32) (x2 : Int32) (x3 : Int32) (x4 : Int64) (x6 : Int32) (I : sm_MI), F_Choir_multiply_11 k5 n x1 x2 x3 x4 x6 I = some (Iz) → sm_W sm_sh X (sm_C sm_sh X sm_P D) me_17 Q (11, [some (.ref 2), some (.int x1), some (.int x2), some (.int x3), some (.long x4), none, some (.int x6)], [], 0, 0) (I, J, sm_rf t d) := by
  intro n
  induction n with
  | zero => intro x1 x2 x3 x4 x6 I h; cases (show (none : Option (sm_MI)) = some (Iz) from h)
  | succ n ih => intro x1 x2 x3 x4 x6 I h; exact G_Choir_multiply_11B hD (show F_Choir_multiply_11B k5 (F_Choir_multiply_11 k5 n) x1 x2 x3 x4 x6 I = some (Iz) from h) hQ hk5 ih
theorem G_Choir_multiply_5B {X : Nat × (Nat → Int32)} {t d D : Nat} {Q : sm_Q} {I : sm_MI} {J : sm_MJ} {k5 : Int32 → Int32 → Int32 → sm_MI → Option (sm_MI)} {x1 : Int32} {x2 : Int32} {x3 : Int32} {Iz : sm_MI}
    (hD : 1 ≤ D) (h : F_Choir_multiply_5B k5 x1 x2 x3 I = some (Iz)) (hQ : Q (.inl none) (Iz, J, sm_rf t d)) (hk5 : ∀ (x1 : Int32) (x2 : Int32) (x3 : Int32) (I : sm_MI), k5 x1 x2 x3 I = some (Iz) → sm_W sm_sh X (sm_C sm_sh X sm_P D) me_17 Q (5, [some (.ref 2), some (.int x1), some (.int x2), some (.int x3), none, none, none], [], 0, 0) (I, J, sm_rf t d)) : sm_W sm_sh X (sm_C sm_sh X sm_P D) me_17 Q (5, [some (.ref 2), some (.int x1), some (.int x2), some (.int x3), none, none, none], [], 0, 0) (I, J, sm_rf t d) := by
  unfold F_Choir_multiply_5B at h
  refine sm_W.run (sm_C_mono D) 2 (G := True) (fr' := (if decide (x3 < 0) = true then 39 else 7, [some (.ref 2), some (.int x1), some (.int x2), some (.int x3), none, none, none], [], 0, 0)) (M' := (I, J, sm_rf t d)) rfl trivial (sm_W.iteD h (fun hc h => ?_) (fun hc h => ?_))
  · cases h
    exact sm_W.ret (sm_C_mono D) rfl hQ
  · refine sm_W.run (sm_C_mono D) 4 (G := True) (fr' := (11, [some (.ref 2), some (.int x1), some (.int x2), some (.int x3), some (.long (0 : Int64)), none, some (.int (0 : Int32))], [], 0, 0)) (M' := (I, J, sm_rf t d)) rfl trivial ?_
    exact (G_Choir_multiply_11 hD hQ hk5 sd_fu _ _ _ _ _ _ h)
theorem G_Choir_multiply_5 {X : Nat × (Nat → Int32)} {t d D : Nat} {Q : sm_Q} {J : sm_MJ} {Iz : sm_MI}
    (hD : 1 ≤ D) (hQ : Q (.inl none) (Iz, J, sm_rf t d))  : ∀ (n : Nat) (x1 : Int32) (x2 : Int32) (x3 : Int32) (I : sm_MI), F_Choir_multiply_5 n x1 x2 x3 I = some (Iz) → sm_W sm_sh X (sm_C sm_sh X sm_P D) me_17 Q (5, [some (.ref 2), some (.int x1), some (.int x2), some (.int x3), none, none, none], [], 0, 0) (I, J, sm_rf t d) := by
  intro n
  induction n with
  | zero => intro x1 x2 x3 I h; cases (show (none : Option (sm_MI)) = some (Iz) from h)
  | succ n ih => intro x1 x2 x3 I h; exact G_Choir_multiply_5B hD (show F_Choir_multiply_5B (F_Choir_multiply_5 n) x1 x2 x3 I = some (Iz) from h) hQ  ih
theorem G_Choir_multiply {X : Nat × (Nat → Int32)} {t d D : Nat} {Q : sm_Q} {I : sm_MI} {J : sm_MJ} {x1 : Int32} {x2 : Int32} {Iz : sm_MI}
    (hD : 1 ≤ D) (h : F_Choir_multiply x1 x2 I = some (Iz)) (hQ : Q (.inl none) (Iz, J, sm_rf t d))  : sm_W sm_sh X (sm_C sm_sh X sm_P D) me_17 Q (0, [some (.ref 2), some (.int x1), some (.int x2), none, none, none, none], [], 0, 0) (I, J, sm_rf t d) := by
  unfold F_Choir_multiply at h
  refine sm_W.runL (sm_C_mono D) 5 (G := True) (e := ((15 : Int32) - (1 : Int32))) (fr' := fun a1 => (5, [some (.ref 2), some (.int x1), some (.int x2), some (.int a1), none, none, none], [], 0, 0)) (M' := fun _ => (I, J, sm_rf t d)) rfl h trivial (fun a1 h => ?_)
  exact (G_Choir_multiply_5 hD hQ sd_fu _ _ _ _ h)
theorem T_Choir_multiply {X : Nat × (Nat → Int32)} {t d D : Nat} {Q : sm_Q} {I : sm_MI} {J : sm_MJ} {x1 : Int32} {x2 : Int32} {Iz : sm_MI}
    (hD : 2 ≤ D) (h : F_Choir_multiply x1 x2 I = some (Iz)) (hQ : Q (.inl none) (Iz, J, sm_rf t d)) : sm_C sm_sh X sm_P D 17 [.ref 2, .int x1, .int x2] (I, J, sm_rf t d) Q := by
  cases D with
  | zero => omega
  | succ D => exact sm_C.of (me := me_17) (L := [some (.ref 2), some (.int x1), some (.int x2), none, none, none, none]) rfl rfl rfl (sm_W.forget (L' := [some (.ref 2), some (.int x1), some (.int x2), none, none, none, none]) ⟨rfl, ⟨rfl, ⟨rfl, trivial⟩⟩⟩ (G_Choir_multiply (by omega) h hQ))
-- 16 Choir_setsOutlived
noncomputable def F_Choir_setsOutlived_34B (p0 : Nat) (k34 : Int32 → Int32 → Int32 → Int32 → Int32 → sm_MI → Option (Int64 × sm_MI)) (x1 : Int32) (x2 : Int32) (x3 : Int32) (x5 : Int32) (x6 : Int32) (I : sm_MI) : Option (Int64 × sm_MI) :=
  if (4 : Int32) ≤ x6 then
    sd_q1 (F_Choir_multiply x5 x5 I) fun I1 =>
    sd_gu (sm_in x3 15 = true) <|
    some ((Int32.toInt64 (I1 2 (Int32.toNatClampNeg x3))), I1)
  else
    sd_lt ((x2 * (4 : Int32)) + x6) fun a3 =>
    sd_gu (sm_in a3 20 = true) <|
    sd_q1 (F_Int_bitCount ((I (p0 + 11) (Int32.toNatClampNeg a3)) &&& x1)) fun r5 =>
    sd_lt (x5 - r5) fun a6 =>
    sd_gu (sm_in a3 20 = true) <|
    sd_q1 (F_Choir_multiply r5 (r5 - (I (p0 + 6) (Int32.toNatClampNeg a3))) I) fun I8 =>
    k34 x1 x2 x3 a6 (x6 + (1 : Int32)) I8
noncomputable def F_Choir_setsOutlived_34 (p0 : Nat) (n : Nat) : Int32 → Int32 → Int32 → Int32 → Int32 → sm_MI → Option (Int64 × sm_MI) :=
  sd_fix (fun k x1 x2 x3 x5 x6 I => F_Choir_setsOutlived_34B p0 k x1 x2 x3 x5 x6 I) (fun _ _ _ _ _ _ => none) n
noncomputable def F_Choir_setsOutlived_15B (p0 : Nat) (k15 : Int32 → Int32 → Int32 → Int32 → sm_MI → Option (Int64 × sm_MI)) (x1 : Int32) (x2 : Int32) (x3 : Int32) (x5 : Int32) (I : sm_MI) : Option (Int64 × sm_MI) :=
  if (15 : Int32) ≤ x5 then
    sd_gu (sm_in (0 : Int32) 15 = true) <|
    sd_lt (sd_up I 2 0 (1 : Int32)) fun I2 =>
    sd_q1 (F_Int_bitCount x1) fun r3 =>
    F_Choir_setsOutlived_34 p0 sd_fu x1 x2 x3 r3 (0 : Int32) I2
  else
    sd_gu (sm_in x5 15 = true) <|
    sd_lt (sd_up I 2 (Int32.toNatClampNeg x5) (0 : Int32)) fun I5 =>
    k15 x1 x2 x3 (x5 + (1 : Int32)) I5
noncomputable def F_Choir_setsOutlived_15 (p0 : Nat) (n : Nat) : Int32 → Int32 → Int32 → Int32 → sm_MI → Option (Int64 × sm_MI) :=
  sd_fix (fun k x1 x2 x3 x5 I => F_Choir_setsOutlived_15B p0 k x1 x2 x3 x5 I) (fun _ _ _ _ _ => none) n
noncomputable def F_Choir_setsOutlived (p0 : Nat) (x1 : Int32) (x2 : Int32) (x3 : Int32) (I : sm_MI) : Option (Int64 × sm_MI) :=
  sd_q1 (F_Valley_canBeSung p0 x2 x1 I) fun r1 =>
  if r1 = 0 then
    some ((0 : Int64), I)
  else
    if x3 < 0 then
      some ((0 : Int64), I)
    else
      if x3 < (15 : Int32) then
        F_Choir_setsOutlived_15 p0 sd_fu x1 x2 x3 (0 : Int32) I
      else
        some ((0 : Int64), I)
theorem G_Choir_setsOutlived_34B {X : Nat × (Nat → Int32)} {t d D : Nat} {Q : sm_Q} {I : sm_MI} {J : sm_MJ} {p0 : Nat} {k34 : Int32 → Int32 → Int32 → Int32 → Int32 → sm_MI → Option (Int64 × sm_MI)} {x1 : Int32} {x2 : Int32} {x3 : Int32} {x5 : Int32} {x6 : Int32} {rz : Int64} {Iz : sm_MI}
    (hD : 2 ≤ D) (hp : (p0 = 21) ∨ (p0 = 41)) (h : F_Choir_setsOutlived_34B p0 k34 x1 x2 x3 x5 x6 I = some (rz, Iz)) (hQ : Q (.inl (some (.long rz))) (Iz, J, sm_rf t d)) (hk34 : ∀ (x1 : Int32) (x2 : Int32) (x3 : Int32) (x5 : Int32) (x6 : Int32) (I : sm_MI), k34 x1 x2 x3 x5 x6 I = some (rz, Iz) → sm_W sm_sh X (sm_C sm_sh X sm_P D) me_16 Q (34, [some (.ref p0), some (.int x1), some (.int x2), some (.int x3), some (.ref 2), some (.int x5), some (.int x6), none, none], [], 0, 0) (I, J, sm_rf t d)) : sm_W sm_sh X (sm_C sm_sh X sm_P D) me_16 Q (34, [some (.ref p0), some (.int x1), some (.int x2), some (.int x3), some (.ref 2), some (.int x5), some (.int x6), none, none], [], 0, 0) (I, J, sm_rf t d) := by
  unfold F_Choir_setsOutlived_34B at h
  rcases hp with rfl | rfl
  · skip
    refine sm_W.run (sm_C_mono D) 3 (G := True) (fr' := (if decide ((4 : Int32) ≤ x6) = true then 66 else 37, [some (.ref 21), some (.int x1), some (.int x2), some (.int x3), some (.ref 2), some (.int x5), some (.int x6), none, none], [], 0, 0)) (M' := (I, J, sm_rf t d)) rfl trivial (sm_W.iteD h (fun hc h => ?_) (fun hc h => ?_))
    · refine sm_W.run (sm_C_mono D) 3 (G := True) (fr' := (69, [some (.ref 21), some (.int x1), some (.int x2), some (.int x3), some (.ref 2), some (.int x5), some (.int x6), none, none], [.int x5, .int x5, .ref 2], 0, 0)) (M' := (I, J, sm_rf t d)) rfl trivial ?_
      obtain ⟨I1, hc, h⟩ := sd_q1_go h
      refine sm_W.cal (sm_C_mono D) (y := 17) (as := [.ref 2, .int x5, .int x5]) (fr' := (70, [some (.ref 21), some (.int x1), some (.int x2), some (.int x3), some (.ref 2), some (.int x5), some (.int x6), none, none], [], 0, 0)) rfl (T_Choir_multiply (by omega) hc ?_)
      show sm_W sm_sh X (sm_C sm_sh X sm_P D) me_16 Q (70, [some (.ref 21), some (.int x1), some (.int x2), some (.int x3), some (.ref 2), some (.int x5), some (.int x6), none, none], [], 0, 0) (I1, J, sm_rf t d)
      obtain ⟨g2, h⟩ := sd_gu_go h
      refine sm_W.run (sm_C_mono D) 4 (G := sm_in x3 15 = true ∧ True) (fr' := (74, [some (.ref 21), some (.int x1), some (.int x2), some (.int x3), some (.ref 2), some (.int x5), some (.int x6), none, none], [.long (Int32.toInt64 (I1 2 (Int32.toNatClampNeg x3)))], 0, 0)) (M' := (I1, J, sm_rf t d)) rfl ⟨g2, trivial⟩ ?_
      cases h
      exact sm_W.ret (sm_C_mono D) rfl hQ
    · refine sm_W.runL (sm_C_mono D) 6 (G := True) (e := ((x2 * (4 : Int32)) + x6)) (fr' := fun a3 => (43, [some (.ref 21), some (.int x1), some (.int x2), some (.int x3), some (.ref 2), some (.int x5), some (.int x6), some (.int a3), none], [], 0, 0)) (M' := fun _ => (I, J, sm_rf t d)) rfl h trivial (fun a3 h => ?_)
      obtain ⟨g4, h⟩ := sd_gu_go h
      refine sm_W.run (sm_C_mono D) 6 (G := sm_in a3 20 = true ∧ True) (fr' := (49, [some (.ref 21), some (.int x1), some (.int x2), some (.int x3), some (.ref 2), some (.int x5), some (.int x6), some (.int a3), none], [.int ((I (21 + 11) (Int32.toNatClampNeg a3)) &&& x1)], 0, 0)) (M' := (I, J, sm_rf t d)) rfl ⟨g4, trivial⟩ ?_
      obtain ⟨r5, hc, h⟩ := sd_q1_go h
      refine sm_W.cal (sm_C_mono D) (y := 268) (as := [.int ((I (21 + 11) (Int32.toNatClampNeg a3)) &&& x1)]) (fr' := (50, [some (.ref 21), some (.int x1), some (.int x2), some (.int x3), some (.ref 2), some (.int x5), some (.int x6), some (.int a3), none], [], 0, 0)) rfl (T_Int_bitCount (by omega) hc ?_)
      show sm_W sm_sh X (sm_C sm_sh X sm_P D) me_16 Q (50, [some (.ref 21), some (.int x1), some (.int x2), some (.int x3), some (.ref 2), some (.int x5), some (.int x6), some (.int a3), none], [.int r5], 0, 0) (I, J, sm_rf t d)
      refine sm_W.runL (sm_C_mono D) 5 (G := True) (e := (x5 - r5)) (fr' := fun a6 => (55, [some (.ref 21), some (.int x1), some (.int x2), some (.int x3), some (.ref 2), some (.int a6), some (.int x6), some (.int a3), some (.int r5)], [], 0, 0)) (M' := fun _ => (I, J, sm_rf t d)) rfl h trivial (fun a6 h => ?_)
      obtain ⟨g7, h⟩ := sd_gu_go h
      refine sm_W.run (sm_C_mono D) 8 (G := sm_in a3 20 = true ∧ True) (fr' := (63, [some (.ref 21), some (.int x1), some (.int x2), some (.int x3), some (.ref 2), some (.int a6), some (.int x6), some (.int a3), some (.int r5)], [.int (r5 - (I (21 + 6) (Int32.toNatClampNeg a3))), .int r5, .ref 2], 0, 0)) (M' := (I, J, sm_rf t d)) rfl ⟨g7, trivial⟩ ?_
      obtain ⟨I8, hc, h⟩ := sd_q1_go h
      refine sm_W.cal (sm_C_mono D) (y := 17) (as := [.ref 2, .int r5, .int (r5 - (I (21 + 6) (Int32.toNatClampNeg a3)))]) (fr' := (64, [some (.ref 21), some (.int x1), some (.int x2), some (.int x3), some (.ref 2), some (.int a6), some (.int x6), some (.int a3), some (.int r5)], [], 0, 0)) rfl (T_Choir_multiply (by omega) hc ?_)
      show sm_W sm_sh X (sm_C sm_sh X sm_P D) me_16 Q (64, [some (.ref 21), some (.int x1), some (.int x2), some (.int x3), some (.ref 2), some (.int a6), some (.int x6), some (.int a3), some (.int r5)], [], 0, 0) (I8, J, sm_rf t d)
      refine sm_W.run (sm_C_mono D) 2 (G := True) (fr' := (34, [some (.ref 21), some (.int x1), some (.int x2), some (.int x3), some (.ref 2), some (.int a6), some (.int (x6 + (1 : Int32))), some (.int a3), some (.int r5)], [], 0, 0)) (M' := (I8, J, sm_rf t d)) rfl trivial ?_
      exact sm_W.forget (L' := [some (.ref 21), some (.int x1), some (.int x2), some (.int x3), some (.ref 2), some (.int a6), some (.int (x6 + (1 : Int32))), none, none]) ⟨rfl, ⟨rfl, ⟨rfl, ⟨rfl, ⟨rfl, ⟨rfl, ⟨rfl, trivial⟩⟩⟩⟩⟩⟩⟩ (hk34 _ _ _ _ _ _ h)
  · skip
    refine sm_W.run (sm_C_mono D) 3 (G := True) (fr' := (if decide ((4 : Int32) ≤ x6) = true then 66 else 37, [some (.ref 41), some (.int x1), some (.int x2), some (.int x3), some (.ref 2), some (.int x5), some (.int x6), none, none], [], 0, 0)) (M' := (I, J, sm_rf t d)) rfl trivial (sm_W.iteD h (fun hc h => ?_) (fun hc h => ?_))
    · refine sm_W.run (sm_C_mono D) 3 (G := True) (fr' := (69, [some (.ref 41), some (.int x1), some (.int x2), some (.int x3), some (.ref 2), some (.int x5), some (.int x6), none, none], [.int x5, .int x5, .ref 2], 0, 0)) (M' := (I, J, sm_rf t d)) rfl trivial ?_
      obtain ⟨I1, hc, h⟩ := sd_q1_go h
      refine sm_W.cal (sm_C_mono D) (y := 17) (as := [.ref 2, .int x5, .int x5]) (fr' := (70, [some (.ref 41), some (.int x1), some (.int x2), some (.int x3), some (.ref 2), some (.int x5), some (.int x6), none, none], [], 0, 0)) rfl (T_Choir_multiply (by omega) hc ?_)
      show sm_W sm_sh X (sm_C sm_sh X sm_P D) me_16 Q (70, [some (.ref 41), some (.int x1), some (.int x2), some (.int x3), some (.ref 2), some (.int x5), some (.int x6), none, none], [], 0, 0) (I1, J, sm_rf t d)
      obtain ⟨g2, h⟩ := sd_gu_go h
      refine sm_W.run (sm_C_mono D) 4 (G := sm_in x3 15 = true ∧ True) (fr' := (74, [some (.ref 41), some (.int x1), some (.int x2), some (.int x3), some (.ref 2), some (.int x5), some (.int x6), none, none], [.long (Int32.toInt64 (I1 2 (Int32.toNatClampNeg x3)))], 0, 0)) (M' := (I1, J, sm_rf t d)) rfl ⟨g2, trivial⟩ ?_
      cases h
      exact sm_W.ret (sm_C_mono D) rfl hQ
    · refine sm_W.runL (sm_C_mono D) 6 (G := True) (e := ((x2 * (4 : Int32)) + x6)) (fr' := fun a3 => (43, [some (.ref 41), some (.int x1), some (.int x2), some (.int x3), some (.ref 2), some (.int x5), some (.int x6), some (.int a3), none], [], 0, 0)) (M' := fun _ => (I, J, sm_rf t d)) rfl h trivial (fun a3 h => ?_)
      obtain ⟨g4, h⟩ := sd_gu_go h
      refine sm_W.run (sm_C_mono D) 6 (G := sm_in a3 20 = true ∧ True) (fr' := (49, [some (.ref 41), some (.int x1), some (.int x2), some (.int x3), some (.ref 2), some (.int x5), some (.int x6), some (.int a3), none], [.int ((I (41 + 11) (Int32.toNatClampNeg a3)) &&& x1)], 0, 0)) (M' := (I, J, sm_rf t d)) rfl ⟨g4, trivial⟩ ?_
      obtain ⟨r5, hc, h⟩ := sd_q1_go h
      refine sm_W.cal (sm_C_mono D) (y := 268) (as := [.int ((I (41 + 11) (Int32.toNatClampNeg a3)) &&& x1)]) (fr' := (50, [some (.ref 41), some (.int x1), some (.int x2), some (.int x3), some (.ref 2), some (.int x5), some (.int x6), some (.int a3), none], [], 0, 0)) rfl (T_Int_bitCount (by omega) hc ?_)
      show sm_W sm_sh X (sm_C sm_sh X sm_P D) me_16 Q (50, [some (.ref 41), some (.int x1), some (.int x2), some (.int x3), some (.ref 2), some (.int x5), some (.int x6), some (.int a3), none], [.int r5], 0, 0) (I, J, sm_rf t d)
      refine sm_W.runL (sm_C_mono D) 5 (G := True) (e := (x5 - r5)) (fr' := fun a6 => (55, [some (.ref 41), some (.int x1), some (.int x2), some (.int x3), some (.ref 2), some (.int a6), some (.int x6), some (.int a3), some (.int r5)], [], 0, 0)) (M' := fun _ => (I, J, sm_rf t d)) rfl h trivial (fun a6 h => ?_)
      obtain ⟨g7, h⟩ := sd_gu_go h
      refine sm_W.run (sm_C_mono D) 8 (G := sm_in a3 20 = true ∧ True) (fr' := (63, [some (.ref 41), some (.int x1), some (.int x2), some (.int x3), some (.ref 2), some (.int a6), some (.int x6), some (.int a3), some (.int r5)], [.int (r5 - (I (41 + 6) (Int32.toNatClampNeg a3))), .int r5, .ref 2], 0, 0)) (M' := (I, J, sm_rf t d)) rfl ⟨g7, trivial⟩ ?_
      obtain ⟨I8, hc, h⟩ := sd_q1_go h
      refine sm_W.cal (sm_C_mono D) (y := 17) (as := [.ref 2, .int r5, .int (r5 - (I (41 + 6) (Int32.toNatClampNeg a3)))]) (fr' := (64, [some (.ref 41), some (.int x1), some (.int x2), some (.int x3), some (.ref 2), some (.int a6), some (.int x6), some (.int a3), some (.int r5)], [], 0, 0)) rfl (T_Choir_multiply (by omega) hc ?_)
      show sm_W sm_sh X (sm_C sm_sh X sm_P D) me_16 Q (64, [some (.ref 41), some (.int x1), some (.int x2), some (.int x3), some (.ref 2), some (.int a6), some (.int x6), some (.int a3), some (.int r5)], [], 0, 0) (I8, J, sm_rf t d)
      refine sm_W.run (sm_C_mono D) 2 (G := True) (fr' := (34, [some (.ref 41), some (.int x1), some (.int x2), some (.int x3), some (.ref 2), some (.int a6), some (.int (x6 + (1 : Int32))), some (.int a3), some (.int r5)], [], 0, 0)) (M' := (I8, J, sm_rf t d)) rfl trivial ?_
      exact sm_W.forget (L' := [some (.ref 41), some (.int x1), some (.int x2), some (.int x3), some (.ref 2), some (.int a6), some (.int (x6 + (1 : Int32))), none, none]) ⟨rfl, ⟨rfl, ⟨rfl, ⟨rfl, ⟨rfl, ⟨rfl, ⟨rfl, trivial⟩⟩⟩⟩⟩⟩⟩ (hk34 _ _ _ _ _ _ h)
theorem G_Choir_setsOutlived_34 {X : Nat × (Nat → Int32)} {t d D : Nat} {Q : sm_Q} {J : sm_MJ} {p0 : Nat} {rz : Int64} {Iz : sm_MI}
    (hD : 2 ≤ D) (hp : (p0 = 21) ∨ (p0 = 41)) (hQ : Q (.inl (some (.long rz))) (Iz, J, sm_rf t d))  : ∀ (n : Nat) (x1 : Int32) (x2 : Int32) (x3 : Int32) (x5 : Int32) (x6 : Int32) (I : sm_MI), F_Choir_setsOutlived_34 p0 n x1 x2 x3 x5 x6 I = some (rz, Iz) → sm_W sm_sh X (sm_C sm_sh X sm_P D) me_16 Q (34, [some (.ref p0), some (.int x1), some (.int x2), some (.int x3), some (.ref 2), some (.int x5), some (.int x6), none, none], [], 0, 0) (I, J, sm_rf t d) := by
  intro n
  induction n with
  | zero => intro x1 x2 x3 x5 x6 I h; cases (show (none : Option (Int64 × sm_MI)) = some (rz, Iz) from h)
  | succ n ih => intro x1 x2 x3 x5 x6 I h; exact G_Choir_setsOutlived_34B hD hp (show F_Choir_setsOutlived_34B p0 (F_Choir_setsOutlived_34 p0 n) x1 x2 x3 x5 x6 I = some (rz, Iz) from h) hQ  ih
theorem G_Choir_setsOutlived_15B {X : Nat × (Nat → Int32)} {t d D : Nat} {Q : sm_Q} {I : sm_MI} {J : sm_MJ} {p0 : Nat} {k15 : Int32 → Int32 → Int32 → Int32 → sm_MI → Option (Int64 × sm_MI)} {x1 : Int32} {x2 : Int32} {x3 : Int32} {x5 : Int32} {rz : Int64} {Iz : sm_MI}
    (hD : 2 ≤ D) (hp : (p0 = 21) ∨ (p0 = 41)) (h : F_Choir_setsOutlived_15B p0 k15 x1 x2 x3 x5 I = some (rz, Iz)) (hQ : Q (.inl (some (.long rz))) (Iz, J, sm_rf t d)) (hk15 : ∀ (x1 : Int32) (x2 : Int32) (x3 : Int32) (x5 : Int32) (I : sm_MI), k15 x1 x2 x3 x5 I = some (rz, Iz) → sm_W sm_sh X (sm_C sm_sh X sm_P D) me_16 Q (15, [some (.ref p0), some (.int x1), some (.int x2), some (.int x3), some (.ref 2), some (.int x5), none, none, none], [], 0, 0) (I, J, sm_rf t d)) : sm_W sm_sh X (sm_C sm_sh X sm_P D) me_16 Q (15, [some (.ref p0), some (.int x1), some (.int x2), some (.int x3), some (.ref 2), some (.int x5), none, none, none], [], 0, 0) (I, J, sm_rf t d) := by
  unfold F_Choir_setsOutlived_15B at h
  rcases hp with rfl | rfl
  · skip
    refine sm_W.run (sm_C_mono D) 4 (G := True) (fr' := (if decide ((15 : Int32) ≤ x5) = true then 25 else 19, [some (.ref 21), some (.int x1), some (.int x2), some (.int x3), some (.ref 2), some (.int x5), none, none, none], [], 0, 0)) (M' := (I, J, sm_rf t d)) rfl trivial (sm_W.iteD h (fun hc h => ?_) (fun hc h => ?_))
    · obtain ⟨g1, h⟩ := sd_gu_go h
      refine sm_W.runL (sm_C_mono D) 4 (G := sm_in (0 : Int32) 15 = true ∧ True) (e := (sd_up I 2 0 (1 : Int32))) (fr' := fun _ => (29, [some (.ref 21), some (.int x1), some (.int x2), some (.int x3), some (.ref 2), some (.int x5), none, none, none], [], 0, 0)) (M' := fun I2 => (I2, J, sm_rf t d)) rfl h ⟨g1, trivial⟩ (fun I2 h => ?_)
      refine sm_W.run (sm_C_mono D) 1 (G := True) (fr' := (30, [some (.ref 21), some (.int x1), some (.int x2), some (.int x3), some (.ref 2), some (.int x5), none, none, none], [.int x1], 0, 0)) (M' := (I2, J, sm_rf t d)) rfl trivial ?_
      obtain ⟨r3, hc, h⟩ := sd_q1_go h
      refine sm_W.cal (sm_C_mono D) (y := 268) (as := [.int x1]) (fr' := (31, [some (.ref 21), some (.int x1), some (.int x2), some (.int x3), some (.ref 2), some (.int x5), none, none, none], [], 0, 0)) rfl (T_Int_bitCount (by omega) hc ?_)
      show sm_W sm_sh X (sm_C sm_sh X sm_P D) me_16 Q (31, [some (.ref 21), some (.int x1), some (.int x2), some (.int x3), some (.ref 2), some (.int x5), none, none, none], [.int r3], 0, 0) (I2, J, sm_rf t d)
      refine sm_W.run (sm_C_mono D) 3 (G := True) (fr' := (34, [some (.ref 21), some (.int x1), some (.int x2), some (.int x3), some (.ref 2), some (.int r3), some (.int (0 : Int32)), none, none], [], 0, 0)) (M' := (I2, J, sm_rf t d)) rfl trivial ?_
      exact (G_Choir_setsOutlived_34 hD (by decide) hQ sd_fu _ _ _ _ _ _ h)
    · obtain ⟨g4, h⟩ := sd_gu_go h
      refine sm_W.runL (sm_C_mono D) 4 (G := sm_in x5 15 = true ∧ True) (e := (sd_up I 2 (Int32.toNatClampNeg x5) (0 : Int32))) (fr' := fun _ => (23, [some (.ref 21), some (.int x1), some (.int x2), some (.int x3), some (.ref 2), some (.int x5), none, none, none], [], 0, 0)) (M' := fun I5 => (I5, J, sm_rf t d)) rfl h ⟨g4, trivial⟩ (fun I5 h => ?_)
      refine sm_W.run (sm_C_mono D) 2 (G := True) (fr' := (15, [some (.ref 21), some (.int x1), some (.int x2), some (.int x3), some (.ref 2), some (.int (x5 + (1 : Int32))), none, none, none], [], 0, 0)) (M' := (I5, J, sm_rf t d)) rfl trivial ?_
      exact (hk15 _ _ _ _ _ h)
  · skip
    refine sm_W.run (sm_C_mono D) 4 (G := True) (fr' := (if decide ((15 : Int32) ≤ x5) = true then 25 else 19, [some (.ref 41), some (.int x1), some (.int x2), some (.int x3), some (.ref 2), some (.int x5), none, none, none], [], 0, 0)) (M' := (I, J, sm_rf t d)) rfl trivial (sm_W.iteD h (fun hc h => ?_) (fun hc h => ?_))
    · obtain ⟨g1, h⟩ := sd_gu_go h
      refine sm_W.runL (sm_C_mono D) 4 (G := sm_in (0 : Int32) 15 = true ∧ True) (e := (sd_up I 2 0 (1 : Int32))) (fr' := fun _ => (29, [some (.ref 41), some (.int x1), some (.int x2), some (.int x3), some (.ref 2), some (.int x5), none, none, none], [], 0, 0)) (M' := fun I2 => (I2, J, sm_rf t d)) rfl h ⟨g1, trivial⟩ (fun I2 h => ?_)
      refine sm_W.run (sm_C_mono D) 1 (G := True) (fr' := (30, [some (.ref 41), some (.int x1), some (.int x2), some (.int x3), some (.ref 2), some (.int x5), none, none, none], [.int x1], 0, 0)) (M' := (I2, J, sm_rf t d)) rfl trivial ?_
      obtain ⟨r3, hc, h⟩ := sd_q1_go h
      refine sm_W.cal (sm_C_mono D) (y := 268) (as := [.int x1]) (fr' := (31, [some (.ref 41), some (.int x1), some (.int x2), some (.int x3), some (.ref 2), some (.int x5), none, none, none], [], 0, 0)) rfl (T_Int_bitCount (by omega) hc ?_)
      show sm_W sm_sh X (sm_C sm_sh X sm_P D) me_16 Q (31, [some (.ref 41), some (.int x1), some (.int x2), some (.int x3), some (.ref 2), some (.int x5), none, none, none], [.int r3], 0, 0) (I2, J, sm_rf t d)
      refine sm_W.run (sm_C_mono D) 3 (G := True) (fr' := (34, [some (.ref 41), some (.int x1), some (.int x2), some (.int x3), some (.ref 2), some (.int r3), some (.int (0 : Int32)), none, none], [], 0, 0)) (M' := (I2, J, sm_rf t d)) rfl trivial ?_
      exact (G_Choir_setsOutlived_34 hD (by decide) hQ sd_fu _ _ _ _ _ _ h)
    · obtain ⟨g4, h⟩ := sd_gu_go h
      refine sm_W.runL (sm_C_mono D) 4 (G := sm_in x5 15 = true ∧ True) (e := (sd_up I 2 (Int32.toNatClampNeg x5) (0 : Int32))) (fr' := fun _ => (23, [some (.ref 41), some (.int x1), some (.int x2), some (.int x3), some (.ref 2), some (.int x5), none, none, none], [], 0, 0)) (M' := fun I5 => (I5, J, sm_rf t d)) rfl h ⟨g4, trivial⟩ (fun I5 h => ?_)
      refine sm_W.run (sm_C_mono D) 2 (G := True) (fr' := (15, [some (.ref 41), some (.int x1), some (.int x2), some (.int x3), some (.ref 2), some (.int (x5 + (1 : Int32))), none, none, none], [], 0, 0)) (M' := (I5, J, sm_rf t d)) rfl trivial ?_
      exact (hk15 _ _ _ _ _ h)
theorem G_Choir_setsOutlived_15 {X : Nat × (Nat → Int32)} {t d D : Nat} {Q : sm_Q} {J : sm_MJ} {p0 : Nat} {rz : Int64} {Iz : sm_MI}
    (hD : 2 ≤ D) (hp : (p0 = 21) ∨ (p0 = 41)) (hQ : Q (.inl (some (.long rz))) (Iz, J, sm_rf t d))  : ∀ (n : Nat) (x1 : Int32) (x2 : Int32) (x3 : Int32) (x5 : Int32) (I : sm_MI), F_Choir_setsOutlived_15 p0 n x1 x2 x3 x5 I = some (rz, Iz) → sm_W sm_sh X (sm_C sm_sh X sm_P D) me_16 Q (15, [some (.ref p0), some (.int x1), some (.int x2), some (.int x3), some (.ref 2), some (.int x5), none, none, none], [], 0, 0) (I, J, sm_rf t d) := by
  intro n
  induction n with
  | zero => intro x1 x2 x3 x5 I h; cases (show (none : Option (Int64 × sm_MI)) = some (rz, Iz) from h)
  | succ n ih => intro x1 x2 x3 x5 I h; exact G_Choir_setsOutlived_15B hD hp (show F_Choir_setsOutlived_15B p0 (F_Choir_setsOutlived_15 p0 n) x1 x2 x3 x5 I = some (rz, Iz) from h) hQ  ih
theorem G_Choir_setsOutlived {X : Nat × (Nat → Int32)} {t d D : Nat} {Q : sm_Q} {I : sm_MI} {J : sm_MJ} {p0 : Nat} {x1 : Int32} {x2 : Int32} {x3 : Int32} {rz : Int64} {Iz : sm_MI}
    (hD : 2 ≤ D) (hp : (p0 = 21) ∨ (p0 = 41)) (h : F_Choir_setsOutlived p0 x1 x2 x3 I = some (rz, Iz)) (hQ : Q (.inl (some (.long rz))) (Iz, J, sm_rf t d))  : sm_W sm_sh X (sm_C sm_sh X sm_P D) me_16 Q (0, [some (.ref p0), some (.int x1), some (.int x2), some (.int x3), some (.ref 2), none, none, none, none], [], 0, 0) (I, J, sm_rf t d) := by
  unfold F_Choir_setsOutlived at h
  rcases hp with rfl | rfl
  · skip
    refine sm_W.run (sm_C_mono D) 3 (G := True) (fr' := (3, [some (.ref 21), some (.int x1), some (.int x2), some (.int x3), some (.ref 2), none, none, none, none], [.int x1, .int x2, .ref 21], 0, 0)) (M' := (I, J, sm_rf t d)) rfl trivial ?_
    obtain ⟨r1, hc, h⟩ := sd_q1_go h
    refine sm_W.cal (sm_C_mono D) (y := 88) (as := [.ref 21, .int x2, .int x1]) (fr' := (4, [some (.ref 21), some (.int x1), some (.int x2), some (.int x3), some (.ref 2), none, none, none, none], [], 0, 0)) rfl (T_Valley_canBeSung (by omega) (by decide) hc ?_)
    show sm_W sm_sh X (sm_C sm_sh X sm_P D) me_16 Q (4, [some (.ref 21), some (.int x1), some (.int x2), some (.int x3), some (.ref 2), none, none, none, none], [.int r1], 0, 0) (I, J, sm_rf t d)
    refine sm_W.run (sm_C_mono D) 1 (G := True) (fr' := (if decide (r1 = 0) = true then 11 else 5, [some (.ref 21), some (.int x1), some (.int x2), some (.int x3), some (.ref 2), none, none, none, none], [], 0, 0)) (M' := (I, J, sm_rf t d)) rfl trivial (sm_W.iteD h (fun hc h => ?_) (fun hc h => ?_))
    · refine sm_W.run (sm_C_mono D) 1 (G := True) (fr' := (12, [some (.ref 21), some (.int x1), some (.int x2), some (.int x3), some (.ref 2), none, none, none, none], [.long (0 : Int64)], 0, 0)) (M' := (I, J, sm_rf t d)) rfl trivial ?_
      cases h
      exact sm_W.ret (sm_C_mono D) rfl hQ
    · refine sm_W.run (sm_C_mono D) 2 (G := True) (fr' := (if decide (x3 < 0) = true then 11 else 7, [some (.ref 21), some (.int x1), some (.int x2), some (.int x3), some (.ref 2), none, none, none, none], [], 0, 0)) (M' := (I, J, sm_rf t d)) rfl trivial (sm_W.iteD h (fun hc h => ?_) (fun hc h => ?_))
      · refine sm_W.run (sm_C_mono D) 1 (G := True) (fr' := (12, [some (.ref 21), some (.int x1), some (.int x2), some (.int x3), some (.ref 2), none, none, none, none], [.long (0 : Int64)], 0, 0)) (M' := (I, J, sm_rf t d)) rfl trivial ?_
        cases h
        exact sm_W.ret (sm_C_mono D) rfl hQ
      · refine sm_W.run (sm_C_mono D) 4 (G := True) (fr' := (if decide (x3 < (15 : Int32)) = true then 13 else 11, [some (.ref 21), some (.int x1), some (.int x2), some (.int x3), some (.ref 2), none, none, none, none], [], 0, 0)) (M' := (I, J, sm_rf t d)) rfl trivial (sm_W.iteD h (fun hc h => ?_) (fun hc h => ?_))
        · refine sm_W.run (sm_C_mono D) 2 (G := True) (fr' := (15, [some (.ref 21), some (.int x1), some (.int x2), some (.int x3), some (.ref 2), some (.int (0 : Int32)), none, none, none], [], 0, 0)) (M' := (I, J, sm_rf t d)) rfl trivial ?_
          exact (G_Choir_setsOutlived_15 hD (by decide) hQ sd_fu _ _ _ _ _ h)
        · refine sm_W.run (sm_C_mono D) 1 (G := True) (fr' := (12, [some (.ref 21), some (.int x1), some (.int x2), some (.int x3), some (.ref 2), none, none, none, none], [.long (0 : Int64)], 0, 0)) (M' := (I, J, sm_rf t d)) rfl trivial ?_
          cases h
          exact sm_W.ret (sm_C_mono D) rfl hQ
  · skip
    refine sm_W.run (sm_C_mono D) 3 (G := True) (fr' := (3, [some (.ref 41), some (.int x1), some (.int x2), some (.int x3), some (.ref 2), none, none, none, none], [.int x1, .int x2, .ref 41], 0, 0)) (M' := (I, J, sm_rf t d)) rfl trivial ?_
    obtain ⟨r1, hc, h⟩ := sd_q1_go h
    refine sm_W.cal (sm_C_mono D) (y := 88) (as := [.ref 41, .int x2, .int x1]) (fr' := (4, [some (.ref 41), some (.int x1), some (.int x2), some (.int x3), some (.ref 2), none, none, none, none], [], 0, 0)) rfl (T_Valley_canBeSung (by omega) (by decide) hc ?_)
    show sm_W sm_sh X (sm_C sm_sh X sm_P D) me_16 Q (4, [some (.ref 41), some (.int x1), some (.int x2), some (.int x3), some (.ref 2), none, none, none, none], [.int r1], 0, 0) (I, J, sm_rf t d)
    refine sm_W.run (sm_C_mono D) 1 (G := True) (fr' := (if decide (r1 = 0) = true then 11 else 5, [some (.ref 41), some (.int x1), some (.int x2), some (.int x3), some (.ref 2), none, none, none, none], [], 0, 0)) (M' := (I, J, sm_rf t d)) rfl trivial (sm_W.iteD h (fun hc h => ?_) (fun hc h => ?_))
    · refine sm_W.run (sm_C_mono D) 1 (G := True) (fr' := (12, [some (.ref 41), some (.int x1), some (.int x2), some (.int x3), some (.ref 2), none, none, none, none], [.long (0 : Int64)], 0, 0)) (M' := (I, J, sm_rf t d)) rfl trivial ?_
      cases h
      exact sm_W.ret (sm_C_mono D) rfl hQ
    · refine sm_W.run (sm_C_mono D) 2 (G := True) (fr' := (if decide (x3 < 0) = true then 11 else 7, [some (.ref 41), some (.int x1), some (.int x2), some (.int x3), some (.ref 2), none, none, none, none], [], 0, 0)) (M' := (I, J, sm_rf t d)) rfl trivial (sm_W.iteD h (fun hc h => ?_) (fun hc h => ?_))
      · refine sm_W.run (sm_C_mono D) 1 (G := True) (fr' := (12, [some (.ref 41), some (.int x1), some (.int x2), some (.int x3), some (.ref 2), none, none, none, none], [.long (0 : Int64)], 0, 0)) (M' := (I, J, sm_rf t d)) rfl trivial ?_
        cases h
        exact sm_W.ret (sm_C_mono D) rfl hQ
      · refine sm_W.run (sm_C_mono D) 4 (G := True) (fr' := (if decide (x3 < (15 : Int32)) = true then 13 else 11, [some (.ref 41), some (.int x1), some (.int x2), some (.int x3), some (.ref 2), none, none, none, none], [], 0, 0)) (M' := (I, J, sm_rf t d)) rfl trivial (sm_W.iteD h (fun hc h => ?_) (fun hc h => ?_))
        · refine sm_W.run (sm_C_mono D) 2 (G := True) (fr' := (15, [some (.ref 41), some (.int x1), some (.int x2), some (.int x3), some (.ref 2), some (.int (0 : Int32)), none, none, none], [], 0, 0)) (M' := (I, J, sm_rf t d)) rfl trivial ?_
          exact (G_Choir_setsOutlived_15 hD (by decide) hQ sd_fu _ _ _ _ _ h)
        · refine sm_W.run (sm_C_mono D) 1 (G := True) (fr' := (12, [some (.ref 41), some (.int x1), some (.int x2), some (.int x3), some (.ref 2), none, none, none, none], [.long (0 : Int64)], 0, 0)) (M' := (I, J, sm_rf t d)) rfl trivial ?_
          cases h
          exact sm_W.ret (sm_C_mono D) rfl hQ
theorem T_Choir_setsOutlived {X : Nat × (Nat → Int32)} {t d D : Nat} {Q : sm_Q} {I : sm_MI} {J : sm_MJ} {p0 : Nat} {x1 : Int32} {x2 : Int32} {x3 : Int32} {rz : Int64} {Iz : sm_MI}
    (hD : 3 ≤ D) (hp : (p0 = 21) ∨ (p0 = 41)) (h : F_Choir_setsOutlived p0 x1 x2 x3 I = some (rz, Iz)) (hQ : Q (.inl (some (.long rz))) (Iz, J, sm_rf t d)) : sm_C sm_sh X sm_P D 16 [.ref p0, .int x1, .int x2, .int x3, .ref 2] (I, J, sm_rf t d) Q := by
  cases D with
  | zero => omega
  | succ D => exact sm_C.of (me := me_16) (L := [some (.ref p0), some (.int x1), some (.int x2), some (.int x3), some (.ref 2), none, none, none, none]) rfl rfl rfl (sm_W.forget (L' := [some (.ref p0), some (.int x1), some (.int x2), some (.int x3), some (.ref 2), none, none, none, none]) ⟨rfl, ⟨rfl, ⟨rfl, ⟨rfl, ⟨rfl, trivial⟩⟩⟩⟩⟩ (G_Choir_setsOutlived (by omega) hp h hQ))
-- 57 State_begin
noncomputable def F_State_begin (x1 : Int32) (I : sm_MI) : Option (sm_MI) :=
  sd_lt (sd_up I 9 0 x1) fun I1 =>
  sd_lt (sd_up I1 9 1 (0 : Int32)) fun I2 =>
  sd_lt (sd_up I2 9 2 (0 : Int32)) fun I3 =>
  sd_lt (sd_up I3 9 3 (0 : Int32)) fun I4 =>
  sd_lt (sd_up I4 9 4 (0 : Int32)) fun I5 =>
  some (I5)
theorem G_State_begin {X : Nat × (Nat → Int32)} {t d D : Nat} {Q : sm_Q} {I : sm_MI} {J : sm_MJ} {x1 : Int32} {Iz : sm_MI}
    (hD : 0 ≤ D) (h : F_State_begin x1 I = some (Iz)) (hQ : Q (.inl none) (Iz, J, sm_rf t d))  : sm_W sm_sh X (sm_C sm_sh X sm_P D) me_57 Q (0, [some (.ref 9), some (.int x1)], [], 0, 0) (I, J, sm_rf t d) := by
  unfold F_State_begin at h
  refine sm_W.runL (sm_C_mono D) 3 (G := True) (e := (sd_up I 9 0 x1)) (fr' := fun _ => (3, [some (.ref 9), some (.int x1)], [], 0, 0)) (M' := fun I1 => (I1, J, sm_rf t d)) rfl h trivial (fun I1 h => ?_)
  refine sm_W.runL (sm_C_mono D) 3 (G := True) (e := (sd_up I1 9 1 (0 : Int32))) (fr' := fun _ => (6, [some (.ref 9), some (.int x1)], [], 0, 0)) (M' := fun I2 => (I2, J, sm_rf t d)) rfl h trivial (fun I2 h => ?_)
  refine sm_W.runL (sm_C_mono D) 3 (G := True) (e := (sd_up I2 9 2 (0 : Int32))) (fr' := fun _ => (9, [some (.ref 9), some (.int x1)], [], 0, 0)) (M' := fun I3 => (I3, J, sm_rf t d)) rfl h trivial (fun I3 h => ?_)
  refine sm_W.runL (sm_C_mono D) 3 (G := True) (e := (sd_up I3 9 3 (0 : Int32))) (fr' := fun _ => (12, [some (.ref 9), some (.int x1)], [], 0, 0)) (M' := fun I4 => (I4, J, sm_rf t d)) rfl h trivial (fun I4 h => ?_)
  refine sm_W.runL (sm_C_mono D) 3 (G := True) (e := (sd_up I4 9 4 (0 : Int32))) (fr' := fun _ => (15, [some (.ref 9), some (.int x1)], [], 0, 0)) (M' := fun I5 => (I5, J, sm_rf t d)) rfl h trivial (fun I5 h => ?_)
  cases h
  exact sm_W.ret (sm_C_mono D) rfl hQ
theorem T_State_begin {X : Nat × (Nat → Int32)} {t d D : Nat} {Q : sm_Q} {I : sm_MI} {J : sm_MJ} {x1 : Int32} {Iz : sm_MI}
    (hD : 1 ≤ D) (h : F_State_begin x1 I = some (Iz)) (hQ : Q (.inl none) (Iz, J, sm_rf t d)) : sm_C sm_sh X sm_P D 57 [.ref 9, .int x1] (I, J, sm_rf t d) Q := by
  cases D with
  | zero => omega
  | succ D => exact sm_C.of (me := me_57) (L := [some (.ref 9), some (.int x1)]) rfl rfl rfl (sm_W.forget (L' := [some (.ref 9), some (.int x1)]) ⟨rfl, ⟨rfl, trivial⟩⟩ (G_State_begin (by omega) h hQ))
-- 18 Story_begin
noncomputable def F_Story_begin (x1 : Int32) (I : sm_MI) : Option (sm_MI) :=
  sd_q1 (F_State_begin x1 I) fun I1 =>
  sd_lt (sd_up I1 8 2 (0 : Int32)) fun I2 =>
  sd_lt (sd_up I2 8 6 (0 : Int32)) fun I3 =>
  some (I3)
theorem G_Story_begin {X : Nat × (Nat → Int32)} {t d D : Nat} {Q : sm_Q} {I : sm_MI} {J : sm_MJ} {x1 : Int32} {Iz : sm_MI}
    (hD : 1 ≤ D) (h : F_Story_begin x1 I = some (Iz)) (hQ : Q (.inl none) (Iz, J, sm_rf t d))  : sm_W sm_sh X (sm_C sm_sh X sm_P D) me_18 Q (0, [some (.ref 8), some (.int x1)], [], 0, 0) (I, J, sm_rf t d) := by
  unfold F_Story_begin at h
  refine sm_W.run (sm_C_mono D) 3 (G := True) (fr' := (3, [some (.ref 8), some (.int x1)], [.int x1, .ref 9], 0, 0)) (M' := (I, J, sm_rf t d)) rfl trivial ?_
  obtain ⟨I1, hc, h⟩ := sd_q1_go h
  refine sm_W.cal (sm_C_mono D) (y := 57) (as := [.ref 9, .int x1]) (fr' := (4, [some (.ref 8), some (.int x1)], [], 0, 0)) rfl (T_State_begin (by omega) hc ?_)
  show sm_W sm_sh X (sm_C sm_sh X sm_P D) me_18 Q (4, [some (.ref 8), some (.int x1)], [], 0, 0) (I1, J, sm_rf t d)
  refine sm_W.runL (sm_C_mono D) 3 (G := True) (e := (sd_up I1 8 2 (0 : Int32))) (fr' := fun _ => (7, [some (.ref 8), some (.int x1)], [], 0, 0)) (M' := fun I2 => (I2, J, sm_rf t d)) rfl h trivial (fun I2 h => ?_)
  refine sm_W.runL (sm_C_mono D) 3 (G := True) (e := (sd_up I2 8 6 (0 : Int32))) (fr' := fun _ => (10, [some (.ref 8), some (.int x1)], [], 0, 0)) (M' := fun I3 => (I3, J, sm_rf t d)) rfl h trivial (fun I3 h => ?_)
  cases h
  exact sm_W.ret (sm_C_mono D) rfl hQ
theorem T_Story_begin {X : Nat × (Nat → Int32)} {t d D : Nat} {Q : sm_Q} {I : sm_MI} {J : sm_MJ} {x1 : Int32} {Iz : sm_MI}
    (hD : 2 ≤ D) (h : F_Story_begin x1 I = some (Iz)) (hQ : Q (.inl none) (Iz, J, sm_rf t d)) : sm_C sm_sh X sm_P D 18 [.ref 8, .int x1] (I, J, sm_rf t d) Q := by
  cases D with
  | zero => omega
  | succ D => exact sm_C.of (me := me_18) (L := [some (.ref 8), some (.int x1)]) rfl rfl rfl (sm_W.forget (L' := [some (.ref 8), some (.int x1)]) ⟨rfl, ⟨rfl, trivial⟩⟩ (G_Story_begin (by omega) h hQ))
-- 58 State_copyFrom
noncomputable def F_State_copyFrom (p0 : Nat) (p1 : Nat) (I : sm_MI) : Option (sm_MI) :=
  sd_lt (sd_up I p0 0 (I p1 0)) fun I1 =>
  sd_lt (sd_up I1 p0 1 (I1 p1 1)) fun I2 =>
  sd_lt (sd_up I2 p0 2 (I2 p1 2)) fun I3 =>
  sd_lt (sd_up I3 p0 3 (I3 p1 3)) fun I4 =>
  sd_lt (sd_up I4 p0 4 (I4 p1 4)) fun I5 =>
  some (I5)
theorem G_State_copyFrom {X : Nat × (Nat → Int32)} {t d D : Nat} {Q : sm_Q} {I : sm_MI} {J : sm_MJ} {p0 : Nat} {p1 : Nat} {Iz : sm_MI}
    (hD : 0 ≤ D) (hp : (p0 = 9 ∧ p1 = 15) ∨ (p0 = 15 ∧ p1 = 9) ∨ (p0 = 20 ∧ p1 = 9)) (h : F_State_copyFrom p0 p1 I = some (Iz)) (hQ : Q (.inl none) (Iz, J, sm_rf t d))  : sm_W sm_sh X (sm_C sm_sh X sm_P D) me_58 Q (0, [some (.ref p0), some (.ref p1)], [], 0, 0) (I, J, sm_rf t d) := by
  unfold F_State_copyFrom at h
  rcases hp with ⟨rfl, rfl⟩ | ⟨rfl, rfl⟩ | ⟨rfl, rfl⟩
  · skip
    refine sm_W.runL (sm_C_mono D) 4 (G := True) (e := (sd_up I 9 0 (I 15 0))) (fr' := fun _ => (4, [some (.ref 9), some (.ref 15)], [], 0, 0)) (M' := fun I1 => (I1, J, sm_rf t d)) rfl h trivial (fun I1 h => ?_)
    refine sm_W.runL (sm_C_mono D) 4 (G := True) (e := (sd_up I1 9 1 (I1 15 1))) (fr' := fun _ => (8, [some (.ref 9), some (.ref 15)], [], 0, 0)) (M' := fun I2 => (I2, J, sm_rf t d)) rfl h trivial (fun I2 h => ?_)
    refine sm_W.runL (sm_C_mono D) 4 (G := True) (e := (sd_up I2 9 2 (I2 15 2))) (fr' := fun _ => (12, [some (.ref 9), some (.ref 15)], [], 0, 0)) (M' := fun I3 => (I3, J, sm_rf t d)) rfl h trivial (fun I3 h => ?_)
    refine sm_W.runL (sm_C_mono D) 4 (G := True) (e := (sd_up I3 9 3 (I3 15 3))) (fr' := fun _ => (16, [some (.ref 9), some (.ref 15)], [], 0, 0)) (M' := fun I4 => (I4, J, sm_rf t d)) rfl h trivial (fun I4 h => ?_)
    refine sm_W.runL (sm_C_mono D) 4 (G := True) (e := (sd_up I4 9 4 (I4 15 4))) (fr' := fun _ => (20, [some (.ref 9), some (.ref 15)], [], 0, 0)) (M' := fun I5 => (I5, J, sm_rf t d)) rfl h trivial (fun I5 h => ?_)
    cases h
    exact sm_W.ret (sm_C_mono D) rfl hQ
  · skip
    refine sm_W.runL (sm_C_mono D) 4 (G := True) (e := (sd_up I 15 0 (I 9 0))) (fr' := fun _ => (4, [some (.ref 15), some (.ref 9)], [], 0, 0)) (M' := fun I1 => (I1, J, sm_rf t d)) rfl h trivial (fun I1 h => ?_)
    refine sm_W.runL (sm_C_mono D) 4 (G := True) (e := (sd_up I1 15 1 (I1 9 1))) (fr' := fun _ => (8, [some (.ref 15), some (.ref 9)], [], 0, 0)) (M' := fun I2 => (I2, J, sm_rf t d)) rfl h trivial (fun I2 h => ?_)
    refine sm_W.runL (sm_C_mono D) 4 (G := True) (e := (sd_up I2 15 2 (I2 9 2))) (fr' := fun _ => (12, [some (.ref 15), some (.ref 9)], [], 0, 0)) (M' := fun I3 => (I3, J, sm_rf t d)) rfl h trivial (fun I3 h => ?_)
    refine sm_W.runL (sm_C_mono D) 4 (G := True) (e := (sd_up I3 15 3 (I3 9 3))) (fr' := fun _ => (16, [some (.ref 15), some (.ref 9)], [], 0, 0)) (M' := fun I4 => (I4, J, sm_rf t d)) rfl h trivial (fun I4 h => ?_)
    refine sm_W.runL (sm_C_mono D) 4 (G := True) (e := (sd_up I4 15 4 (I4 9 4))) (fr' := fun _ => (20, [some (.ref 15), some (.ref 9)], [], 0, 0)) (M' := fun I5 => (I5, J, sm_rf t d)) rfl h trivial (fun I5 h => ?_)
    cases h
    exact sm_W.ret (sm_C_mono D) rfl hQ
  · skip
    refine sm_W.runL (sm_C_mono D) 4 (G := True) (e := (sd_up I 20 0 (I 9 0))) (fr' := fun _ => (4, [some (.ref 20), some (.ref 9)], [], 0, 0)) (M' := fun I1 => (I1, J, sm_rf t d)) rfl h trivial (fun I1 h => ?_)
    refine sm_W.runL (sm_C_mono D) 4 (G := True) (e := (sd_up I1 20 1 (I1 9 1))) (fr' := fun _ => (8, [some (.ref 20), some (.ref 9)], [], 0, 0)) (M' := fun I2 => (I2, J, sm_rf t d)) rfl h trivial (fun I2 h => ?_)
    refine sm_W.runL (sm_C_mono D) 4 (G := True) (e := (sd_up I2 20 2 (I2 9 2))) (fr' := fun _ => (12, [some (.ref 20), some (.ref 9)], [], 0, 0)) (M' := fun I3 => (I3, J, sm_rf t d)) rfl h trivial (fun I3 h => ?_)
    refine sm_W.runL (sm_C_mono D) 4 (G := True) (e := (sd_up I3 20 3 (I3 9 3))) (fr' := fun _ => (16, [some (.ref 20), some (.ref 9)], [], 0, 0)) (M' := fun I4 => (I4, J, sm_rf t d)) rfl h trivial (fun I4 h => ?_)
    refine sm_W.runL (sm_C_mono D) 4 (G := True) (e := (sd_up I4 20 4 (I4 9 4))) (fr' := fun _ => (20, [some (.ref 20), some (.ref 9)], [], 0, 0)) (M' := fun I5 => (I5, J, sm_rf t d)) rfl h trivial (fun I5 h => ?_)
    cases h
    exact sm_W.ret (sm_C_mono D) rfl hQ
theorem T_State_copyFrom {X : Nat × (Nat → Int32)} {t d D : Nat} {Q : sm_Q} {I : sm_MI} {J : sm_MJ} {p0 : Nat} {p1 : Nat} {Iz : sm_MI}
    (hD : 1 ≤ D) (hp : (p0 = 9 ∧ p1 = 15) ∨ (p0 = 15 ∧ p1 = 9) ∨ (p0 = 20 ∧ p1 = 9)) (h : F_State_copyFrom p0 p1 I = some (Iz)) (hQ : Q (.inl none) (Iz, J, sm_rf t d)) : sm_C sm_sh X sm_P D 58 [.ref p0, .ref p1] (I, J, sm_rf t d) Q := by
  cases D with
  | zero => omega
  | succ D => exact sm_C.of (me := me_58) (L := [some (.ref p0), some (.ref p1)]) rfl rfl rfl (sm_W.forget (L' := [some (.ref p0), some (.ref p1)]) ⟨rfl, ⟨rfl, trivial⟩⟩ (G_State_copyFrom (by omega) hp h hQ))
-- 19 Story_copyFrom
noncomputable def F_Story_copyFrom (p0 : Nat) (p1 : Nat) (I : sm_MI) : Option (sm_MI) :=
  sd_q1 (F_State_copyFrom (p0 + 1) (p1 + 1) I) fun I1 =>
  sd_gu (¬ (0 : Int32) < 0 ∧ ¬ (0 : Int32) < 0 ∧ ¬ (200 : Int32) < 0 ∧ 0 + 200 ≤ 200 ∧ 0 + 200 ≤ 200) <|
  sd_lt (va_up I1 (p0 + 2) (va_cpy (I1 (p1 + 2)) (I1 (p0 + 2)) 0 0 200)) fun I3 =>
  sd_lt (sd_up I3 p0 2 (I3 p1 2)) fun I4 =>
  sd_gu (¬ (0 : Int32) < 0 ∧ ¬ (0 : Int32) < 0 ∧ ¬ (8 : Int32) < 0 ∧ 0 + 8 ≤ 8 ∧ 0 + 8 ≤ 8) <|
  sd_lt (va_up I4 (p0 + 3) (va_cpy (I4 (p1 + 3)) (I4 (p0 + 3)) 0 0 8)) fun I6 =>
  sd_gu (¬ (0 : Int32) < 0 ∧ ¬ (0 : Int32) < 0 ∧ ¬ (8 : Int32) < 0 ∧ 0 + 8 ≤ 8 ∧ 0 + 8 ≤ 8) <|
  sd_lt (va_up I6 (p0 + 4) (va_cpy (I6 (p1 + 4)) (I6 (p0 + 4)) 0 0 8)) fun I8 =>
  sd_gu (¬ (0 : Int32) < 0 ∧ ¬ (0 : Int32) < 0 ∧ ¬ (8 : Int32) < 0 ∧ 0 + 8 ≤ 8 ∧ 0 + 8 ≤ 8) <|
  sd_lt (va_up I8 (p0 + 5) (va_cpy (I8 (p1 + 5)) (I8 (p0 + 5)) 0 0 8)) fun I10 =>
  sd_lt (sd_up I10 p0 6 (I10 p1 6)) fun I11 =>
  some (I11)
theorem G_Story_copyFrom {X : Nat × (Nat → Int32)} {t d D : Nat} {Q : sm_Q} {I : sm_MI} {J : sm_MJ} {p0 : Nat} {p1 : Nat} {Iz : sm_MI}
    (hD : 1 ≤ D) (hp : (p0 = 8 ∧ p1 = 14) ∨ (p0 = 14 ∧ p1 = 8)) (h : F_Story_copyFrom p0 p1 I = some (Iz)) (hQ : Q (.inl none) (Iz, J, sm_rf t d))  : sm_W sm_sh X (sm_C sm_sh X sm_P D) me_19 Q (0, [some (.ref p0), some (.ref p1)], [], 0, 0) (I, J, sm_rf t d) := by
  unfold F_Story_copyFrom at h
  rcases hp with ⟨rfl, rfl⟩ | ⟨rfl, rfl⟩
  · skip
    refine sm_W.run (sm_C_mono D) 4 (G := True) (fr' := (4, [some (.ref 8), some (.ref 14)], [.ref (14 + 1), .ref (8 + 1)], 0, 0)) (M' := (I, J, sm_rf t d)) rfl trivial ?_
    obtain ⟨I1, hc, h⟩ := sd_q1_go h
    refine sm_W.cal (sm_C_mono D) (y := 58) (as := [.ref (8 + 1), .ref (14 + 1)]) (fr' := (5, [some (.ref 8), some (.ref 14)], [], 0, 0)) rfl (T_State_copyFrom (by omega) (by decide) hc ?_)
    show sm_W sm_sh X (sm_C sm_sh X sm_P D) me_19 Q (5, [some (.ref 8), some (.ref 14)], [], 0, 0) (I1, J, sm_rf t d)
    obtain ⟨g2, h⟩ := sd_gu_go h
    refine sm_W.runL (sm_C_mono D) 10 (G := (¬ (0 : Int32) < 0 ∧ ¬ (0 : Int32) < 0 ∧ ¬ (200 : Int32) < 0 ∧ 0 + 200 ≤ 200 ∧ 0 + 200 ≤ 200) ∧ True) (e := (va_up I1 (8 + 2) (va_cpy (I1 (14 + 2)) (I1 (8 + 2)) 0 0 200))) (fr' := fun _ => (15, [some (.ref 8), some (.ref 14)], [], 0, 0)) (M' := fun I3 => (I3, J, sm_rf t d)) rfl h ⟨g2, trivial⟩ (fun I3 h => ?_)
    refine sm_W.runL (sm_C_mono D) 4 (G := True) (e := (sd_up I3 8 2 (I3 14 2))) (fr' := fun _ => (19, [some (.ref 8), some (.ref 14)], [], 0, 0)) (M' := fun I4 => (I4, J, sm_rf t d)) rfl h trivial (fun I4 h => ?_)
    obtain ⟨g5, h⟩ := sd_gu_go h
    refine sm_W.runL (sm_C_mono D) 8 (G := (¬ (0 : Int32) < 0 ∧ ¬ (0 : Int32) < 0 ∧ ¬ (8 : Int32) < 0 ∧ 0 + 8 ≤ 8 ∧ 0 + 8 ≤ 8) ∧ True) (e := (va_up I4 (8 + 3) (va_cpy (I4 (14 + 3)) (I4 (8 + 3)) 0 0 8))) (fr' := fun _ => (27, [some (.ref 8), some (.ref 14)], [], 0, 0)) (M' := fun I6 => (I6, J, sm_rf t d)) rfl h ⟨g5, trivial⟩ (fun I6 h => ?_)
    obtain ⟨g7, h⟩ := sd_gu_go h
    refine sm_W.runL (sm_C_mono D) 8 (G := (¬ (0 : Int32) < 0 ∧ ¬ (0 : Int32) < 0 ∧ ¬ (8 : Int32) < 0 ∧ 0 + 8 ≤ 8 ∧ 0 + 8 ≤ 8) ∧ True) (e := (va_up I6 (8 + 4) (va_cpy (I6 (14 + 4)) (I6 (8 + 4)) 0 0 8))) (fr' := fun _ => (35, [some (.ref 8), some (.ref 14)], [], 0, 0)) (M' := fun I8 => (I8, J, sm_rf t d)) rfl h ⟨g7, trivial⟩ (fun I8 h => ?_)
    obtain ⟨g9, h⟩ := sd_gu_go h
    refine sm_W.runL (sm_C_mono D) 8 (G := (¬ (0 : Int32) < 0 ∧ ¬ (0 : Int32) < 0 ∧ ¬ (8 : Int32) < 0 ∧ 0 + 8 ≤ 8 ∧ 0 + 8 ≤ 8) ∧ True) (e := (va_up I8 (8 + 5) (va_cpy (I8 (14 + 5)) (I8 (8 + 5)) 0 0 8))) (fr' := fun _ => (43, [some (.ref 8), some (.ref 14)], [], 0, 0)) (M' := fun I10 => (I10, J, sm_rf t d)) rfl h ⟨g9, trivial⟩ (fun I10 h => ?_)
    refine sm_W.runL (sm_C_mono D) 4 (G := True) (e := (sd_up I10 8 6 (I10 14 6))) (fr' := fun _ => (47, [some (.ref 8), some (.ref 14)], [], 0, 0)) (M' := fun I11 => (I11, J, sm_rf t d)) rfl h trivial (fun I11 h => ?_)
    cases h
    exact sm_W.ret (sm_C_mono D) rfl hQ
  · skip
    refine sm_W.run (sm_C_mono D) 4 (G := True) (fr' := (4, [some (.ref 14), some (.ref 8)], [.ref (8 + 1), .ref (14 + 1)], 0, 0)) (M' := (I, J, sm_rf t d)) rfl trivial ?_
    obtain ⟨I1, hc, h⟩ := sd_q1_go h
    refine sm_W.cal (sm_C_mono D) (y := 58) (as := [.ref (14 + 1), .ref (8 + 1)]) (fr' := (5, [some (.ref 14), some (.ref 8)], [], 0, 0)) rfl (T_State_copyFrom (by omega) (by decide) hc ?_)
    show sm_W sm_sh X (sm_C sm_sh X sm_P D) me_19 Q (5, [some (.ref 14), some (.ref 8)], [], 0, 0) (I1, J, sm_rf t d)
    obtain ⟨g2, h⟩ := sd_gu_go h
    refine sm_W.runL (sm_C_mono D) 10 (G := (¬ (0 : Int32) < 0 ∧ ¬ (0 : Int32) < 0 ∧ ¬ (200 : Int32) < 0 ∧ 0 + 200 ≤ 200 ∧ 0 + 200 ≤ 200) ∧ True) (e := (va_up I1 (14 + 2) (va_cpy (I1 (8 + 2)) (I1 (14 + 2)) 0 0 200))) (fr' := fun _ => (15, [some (.ref 14), some (.ref 8)], [], 0, 0)) (M' := fun I3 => (I3, J, sm_rf t d)) rfl h ⟨g2, trivial⟩ (fun I3 h => ?_)
    refine sm_W.runL (sm_C_mono D) 4 (G := True) (e := (sd_up I3 14 2 (I3 8 2))) (fr' := fun _ => (19, [some (.ref 14), some (.ref 8)], [], 0, 0)) (M' := fun I4 => (I4, J, sm_rf t d)) rfl h trivial (fun I4 h => ?_)
    obtain ⟨g5, h⟩ := sd_gu_go h
    refine sm_W.runL (sm_C_mono D) 8 (G := (¬ (0 : Int32) < 0 ∧ ¬ (0 : Int32) < 0 ∧ ¬ (8 : Int32) < 0 ∧ 0 + 8 ≤ 8 ∧ 0 + 8 ≤ 8) ∧ True) (e := (va_up I4 (14 + 3) (va_cpy (I4 (8 + 3)) (I4 (14 + 3)) 0 0 8))) (fr' := fun _ => (27, [some (.ref 14), some (.ref 8)], [], 0, 0)) (M' := fun I6 => (I6, J, sm_rf t d)) rfl h ⟨g5, trivial⟩ (fun I6 h => ?_)
    obtain ⟨g7, h⟩ := sd_gu_go h
    refine sm_W.runL (sm_C_mono D) 8 (G := (¬ (0 : Int32) < 0 ∧ ¬ (0 : Int32) < 0 ∧ ¬ (8 : Int32) < 0 ∧ 0 + 8 ≤ 8 ∧ 0 + 8 ≤ 8) ∧ True) (e := (va_up I6 (14 + 4) (va_cpy (I6 (8 + 4)) (I6 (14 + 4)) 0 0 8))) (fr' := fun _ => (35, [some (.ref 14), some (.ref 8)], [], 0, 0)) (M' := fun I8 => (I8, J, sm_rf t d)) rfl h ⟨g7, trivial⟩ (fun I8 h => ?_)
    obtain ⟨g9, h⟩ := sd_gu_go h
    refine sm_W.runL (sm_C_mono D) 8 (G := (¬ (0 : Int32) < 0 ∧ ¬ (0 : Int32) < 0 ∧ ¬ (8 : Int32) < 0 ∧ 0 + 8 ≤ 8 ∧ 0 + 8 ≤ 8) ∧ True) (e := (va_up I8 (14 + 5) (va_cpy (I8 (8 + 5)) (I8 (14 + 5)) 0 0 8))) (fr' := fun _ => (43, [some (.ref 14), some (.ref 8)], [], 0, 0)) (M' := fun I10 => (I10, J, sm_rf t d)) rfl h ⟨g9, trivial⟩ (fun I10 h => ?_)
    refine sm_W.runL (sm_C_mono D) 4 (G := True) (e := (sd_up I10 14 6 (I10 8 6))) (fr' := fun _ => (47, [some (.ref 14), some (.ref 8)], [], 0, 0)) (M' := fun I11 => (I11, J, sm_rf t d)) rfl h trivial (fun I11 h => ?_)
    cases h
    exact sm_W.ret (sm_C_mono D) rfl hQ
theorem T_Story_copyFrom {X : Nat × (Nat → Int32)} {t d D : Nat} {Q : sm_Q} {I : sm_MI} {J : sm_MJ} {p0 : Nat} {p1 : Nat} {Iz : sm_MI}
    (hD : 2 ≤ D) (hp : (p0 = 8 ∧ p1 = 14) ∨ (p0 = 14 ∧ p1 = 8)) (h : F_Story_copyFrom p0 p1 I = some (Iz)) (hQ : Q (.inl none) (Iz, J, sm_rf t d)) : sm_C sm_sh X sm_P D 19 [.ref p0, .ref p1] (I, J, sm_rf t d) Q := by
  cases D with
  | zero => omega
  | succ D => exact sm_C.of (me := me_19) (L := [some (.ref p0), some (.ref p1)]) rfl rfl rfl (sm_W.forget (L' := [some (.ref p0), some (.ref p1)]) ⟨rfl, ⟨rfl, trivial⟩⟩ (G_Story_copyFrom (by omega) hp h hQ))
-- 59 State_writeTo
noncomputable def F_State_writeTo (x2 : Int32) (I : sm_MI) : Option (sm_MI) :=
  if x2 < 0 then
    some (I)
  else
    if x2 ≤ ((200 : Int32) - (5 : Int32)) then
      sd_gu (sm_in x2 200 = true) <|
      sd_lt (sd_up I 10 (Int32.toNatClampNeg x2) (I 9 0)) fun I2 =>
      sd_gu (sm_in (x2 + (1 : Int32)) 200 = true) <|
      sd_lt (sd_up I2 10 (Int32.toNatClampNeg (x2 + (1 : Int32))) (I2 9 1)) fun I4 =>
      sd_gu (sm_in (x2 + (2 : Int32)) 200 = true) <|
      sd_lt (sd_up I4 10 (Int32.toNatClampNeg (x2 + (2 : Int32))) (I4 9 2)) fun I6 =>
      sd_gu (sm_in (x2 + (3 : Int32)) 200 = true) <|
      sd_lt (sd_up I6 10 (Int32.toNatClampNeg (x2 + (3 : Int32))) (I6 9 3)) fun I8 =>
      sd_gu (sm_in (x2 + (4 : Int32)) 200 = true) <|
      sd_lt (sd_up I8 10 (Int32.toNatClampNeg (x2 + (4 : Int32))) (I8 9 4)) fun I10 =>
      some (I10)
    else
      some (I)
theorem G_State_writeTo {X : Nat × (Nat → Int32)} {t d D : Nat} {Q : sm_Q} {I : sm_MI} {J : sm_MJ} {x2 : Int32} {Iz : sm_MI}
    (hD : 0 ≤ D) (h : F_State_writeTo x2 I = some (Iz)) (hQ : Q (.inl none) (Iz, J, sm_rf t d))  : sm_W sm_sh X (sm_C sm_sh X sm_P D) me_59 Q (0, [some (.ref 9), some (.ref 10), some (.int x2)], [], 0, 0) (I, J, sm_rf t d) := by
  unfold F_State_writeTo at h
  refine sm_W.run (sm_C_mono D) 2 (G := True) (fr' := (if decide (x2 < 0) = true then 8 else 2, [some (.ref 9), some (.ref 10), some (.int x2)], [], 0, 0)) (M' := (I, J, sm_rf t d)) rfl trivial (sm_W.iteD h (fun hc h => ?_) (fun hc h => ?_))
  · cases h
    exact sm_W.ret (sm_C_mono D) rfl hQ
  · refine sm_W.run (sm_C_mono D) 6 (G := True) (fr' := (if decide (x2 ≤ ((200 : Int32) - (5 : Int32))) = true then 9 else 8, [some (.ref 9), some (.ref 10), some (.int x2)], [], 0, 0)) (M' := (I, J, sm_rf t d)) rfl trivial (sm_W.iteD h (fun hc h => ?_) (fun hc h => ?_))
    · obtain ⟨g1, h⟩ := sd_gu_go h
      refine sm_W.runL (sm_C_mono D) 5 (G := sm_in x2 200 = true ∧ True) (e := (sd_up I 10 (Int32.toNatClampNeg x2) (I 9 0))) (fr' := fun _ => (14, [some (.ref 9), some (.ref 10), some (.int x2)], [], 0, 0)) (M' := fun I2 => (I2, J, sm_rf t d)) rfl h ⟨g1, trivial⟩ (fun I2 h => ?_)
      obtain ⟨g3, h⟩ := sd_gu_go h
      refine sm_W.runL (sm_C_mono D) 7 (G := sm_in (x2 + (1 : Int32)) 200 = true ∧ True) (e := (sd_up I2 10 (Int32.toNatClampNeg (x2 + (1 : Int32))) (I2 9 1))) (fr' := fun _ => (21, [some (.ref 9), some (.ref 10), some (.int x2)], [], 0, 0)) (M' := fun I4 => (I4, J, sm_rf t d)) rfl h ⟨g3, trivial⟩ (fun I4 h => ?_)
      obtain ⟨g5, h⟩ := sd_gu_go h
      refine sm_W.runL (sm_C_mono D) 7 (G := sm_in (x2 + (2 : Int32)) 200 = true ∧ True) (e := (sd_up I4 10 (Int32.toNatClampNeg (x2 + (2 : Int32))) (I4 9 2))) (fr' := fun _ => (28, [some (.ref 9), some (.ref 10), some (.int x2)], [], 0, 0)) (M' := fun I6 => (I6, J, sm_rf t d)) rfl h ⟨g5, trivial⟩ (fun I6 h => ?_)
      obtain ⟨g7, h⟩ := sd_gu_go h
      refine sm_W.runL (sm_C_mono D) 7 (G := sm_in (x2 + (3 : Int32)) 200 = true ∧ True) (e := (sd_up I6 10 (Int32.toNatClampNeg (x2 + (3 : Int32))) (I6 9 3))) (fr' := fun _ => (35, [some (.ref 9), some (.ref 10), some (.int x2)], [], 0, 0)) (M' := fun I8 => (I8, J, sm_rf t d)) rfl h ⟨g7, trivial⟩ (fun I8 h => ?_)
      obtain ⟨g9, h⟩ := sd_gu_go h
      refine sm_W.runL (sm_C_mono D) 7 (G := sm_in (x2 + (4 : Int32)) 200 = true ∧ True) (e := (sd_up I8 10 (Int32.toNatClampNeg (x2 + (4 : Int32))) (I8 9 4))) (fr' := fun _ => (42, [some (.ref 9), some (.ref 10), some (.int x2)], [], 0, 0)) (M' := fun I10 => (I10, J, sm_rf t d)) rfl h ⟨g9, trivial⟩ (fun I10 h => ?_)
      cases h
      exact sm_W.ret (sm_C_mono D) rfl hQ
    · cases h
      exact sm_W.ret (sm_C_mono D) rfl hQ
theorem T_State_writeTo {X : Nat × (Nat → Int32)} {t d D : Nat} {Q : sm_Q} {I : sm_MI} {J : sm_MJ} {x2 : Int32} {Iz : sm_MI}
    (hD : 1 ≤ D) (h : F_State_writeTo x2 I = some (Iz)) (hQ : Q (.inl none) (Iz, J, sm_rf t d)) : sm_C sm_sh X sm_P D 59 [.ref 9, .ref 10, .int x2] (I, J, sm_rf t d) Q := by
  cases D with
  | zero => omega
  | succ D => exact sm_C.of (me := me_59) (L := [some (.ref 9), some (.ref 10), some (.int x2)]) rfl rfl rfl (sm_W.forget (L' := [some (.ref 9), some (.ref 10), some (.int x2)]) ⟨rfl, ⟨rfl, ⟨rfl, trivial⟩⟩⟩ (G_State_writeTo (by omega) h hQ))
-- 20 Story_keepAct
noncomputable def F_Story_keepAct_19 (I : sm_MI) : Option (sm_MI) :=
  sd_q1 (F_State_writeTo ((I 8 2) * (5 : Int32)) I) fun I1 =>
  sd_lt (sd_up I1 8 2 ((I1 8 2) + (1 : Int32))) fun I2 =>
  some (I2)
noncomputable def F_Story_keepAct (I : sm_MI) : Option (sm_MI) :=
  if (I 8 2) < (40 : Int32) then
    F_Story_keepAct_19 I
  else
    sd_gu (¬ (5 : Int32) < 0 ∧ ¬ (0 : Int32) < 0 ∧ ¬ ((200 : Int32) - (5 : Int32)) < 0 ∧ 5 + (Int32.toNatClampNeg ((200 : Int32) - (5 : Int32))) ≤ 200 ∧ 0 + (Int32.toNatClampNeg ((200 : Int32) - (5 : Int32))) ≤ 200) <|
    sd_lt (va_up I 10 (va_cpy (I 10) (I 10) 5 0 (Int32.toNatClampNeg ((200 : Int32) - (5 : Int32))))) fun I2 =>
    sd_lt (sd_up I2 8 2 (39 : Int32)) fun I3 =>
    F_Story_keepAct_19 I3
theorem G_Story_keepAct_19 {X : Nat × (Nat → Int32)} {t d D : Nat} {Q : sm_Q} {I : sm_MI} {J : sm_MJ} {Iz : sm_MI}
    (hD : 1 ≤ D) (h : F_Story_keepAct_19 I = some (Iz)) (hQ : Q (.inl none) (Iz, J, sm_rf t d))  : sm_W sm_sh X (sm_C sm_sh X sm_P D) me_20 Q (19, [some (.ref 8)], [], 0, 0) (I, J, sm_rf t d) := by
  unfold F_Story_keepAct_19 at h
  refine sm_W.run (sm_C_mono D) 8 (G := True) (fr' := (27, [some (.ref 8)], [.int ((I 8 2) * (5 : Int32)), .ref 10, .ref 9], 0, 0)) (M' := (I, J, sm_rf t d)) rfl trivial ?_
  obtain ⟨I1, hc, h⟩ := sd_q1_go h
  refine sm_W.cal (sm_C_mono D) (y := 59) (as := [.ref 9, .ref 10, .int ((I 8 2) * (5 : Int32))]) (fr' := (28, [some (.ref 8)], [], 0, 0)) rfl (T_State_writeTo (by omega) hc ?_)
  show sm_W sm_sh X (sm_C sm_sh X sm_P D) me_20 Q (28, [some (.ref 8)], [], 0, 0) (I1, J, sm_rf t d)
  refine sm_W.runL (sm_C_mono D) 6 (G := True) (e := (sd_up I1 8 2 ((I1 8 2) + (1 : Int32)))) (fr' := fun _ => (34, [some (.ref 8)], [], 0, 0)) (M' := fun I2 => (I2, J, sm_rf t d)) rfl h trivial (fun I2 h => ?_)
  cases h
  exact sm_W.ret (sm_C_mono D) rfl hQ
theorem G_Story_keepAct {X : Nat × (Nat → Int32)} {t d D : Nat} {Q : sm_Q} {I : sm_MI} {J : sm_MJ} {Iz : sm_MI}
    (hD : 1 ≤ D) (h : F_Story_keepAct I = some (Iz)) (hQ : Q (.inl none) (Iz, J, sm_rf t d))  : sm_W sm_sh X (sm_C sm_sh X sm_P D) me_20 Q (0, [some (.ref 8)], [], 0, 0) (I, J, sm_rf t d) := by
  unfold F_Story_keepAct at h
  refine sm_W.run (sm_C_mono D) 4 (G := True) (fr' := (if decide ((I 8 2) < (40 : Int32)) = true then 19 else 4, [some (.ref 8)], [], 0, 0)) (M' := (I, J, sm_rf t d)) rfl trivial (sm_W.iteD h (fun hc h => ?_) (fun hc h => ?_))
  · exact (G_Story_keepAct_19 hD h hQ)
  · obtain ⟨g1, h⟩ := sd_gu_go h
    refine sm_W.runL (sm_C_mono D) 12 (G := (¬ (5 : Int32) < 0 ∧ ¬ (0 : Int32) < 0 ∧ ¬ ((200 : Int32) - (5 : Int32)) < 0 ∧ 5 + (Int32.toNatClampNeg ((200 : Int32) - (5 : Int32))) ≤ 200 ∧ 0 + (Int32.toNatClampNeg ((200 : Int32) - (5 : Int32))) ≤ 200) ∧ True) (e := (va_up I 10 (va_cpy (I 10) (I 10) 5 0 (Int32.toNatClampNeg ((200 : Int32) - (5 : Int32)))))) (fr' := fun _ => (16, [some (.ref 8)], [], 0, 0)) (M' := fun I2 => (I2, J, sm_rf t d)) rfl h ⟨g1, trivial⟩ (fun I2 h => ?_)
    refine sm_W.runL (sm_C_mono D) 3 (G := True) (e := (sd_up I2 8 2 (39 : Int32))) (fr' := fun _ => (19, [some (.ref 8)], [], 0, 0)) (M' := fun I3 => (I3, J, sm_rf t d)) rfl h trivial (fun I3 h => ?_)
    exact (G_Story_keepAct_19 hD h hQ)
theorem T_Story_keepAct {X : Nat × (Nat → Int32)} {t d D : Nat} {Q : sm_Q} {I : sm_MI} {J : sm_MJ} {Iz : sm_MI}
    (hD : 2 ≤ D) (h : F_Story_keepAct I = some (Iz)) (hQ : Q (.inl none) (Iz, J, sm_rf t d)) : sm_C sm_sh X sm_P D 20 [.ref 8] (I, J, sm_rf t d) Q := by
  cases D with
  | zero => omega
  | succ D => exact sm_C.of (me := me_20) (L := [some (.ref 8)]) rfl rfl rfl (sm_W.forget (L' := [some (.ref 8)]) ⟨rfl, trivial⟩ (G_Story_keepAct (by omega) h hQ))
-- 60 State_readFrom
noncomputable def F_State_readFrom (x2 : Int32) (I : sm_MI) : Option (sm_MI) :=
  if x2 < 0 then
    some (I)
  else
    if x2 ≤ ((200 : Int32) - (5 : Int32)) then
      sd_gu (sm_in x2 200 = true) <|
      sd_lt (sd_up I 9 0 (I 10 (Int32.toNatClampNeg x2))) fun I2 =>
      sd_gu (sm_in (x2 + (1 : Int32)) 200 = true) <|
      sd_lt (sd_up I2 9 1 (I2 10 (Int32.toNatClampNeg (x2 + (1 : Int32))))) fun I4 =>
      sd_gu (sm_in (x2 + (2 : Int32)) 200 = true) <|
      sd_lt (sd_up I4 9 2 (I4 10 (Int32.toNatClampNeg (x2 + (2 : Int32))))) fun I6 =>
      sd_gu (sm_in (x2 + (3 : Int32)) 200 = true) <|
      sd_lt (sd_up I6 9 3 (I6 10 (Int32.toNatClampNeg (x2 + (3 : Int32))))) fun I8 =>
      sd_gu (sm_in (x2 + (4 : Int32)) 200 = true) <|
      sd_lt (sd_up I8 9 4 (I8 10 (Int32.toNatClampNeg (x2 + (4 : Int32))))) fun I10 =>
      some (I10)
    else
      some (I)
theorem G_State_readFrom {X : Nat × (Nat → Int32)} {t d D : Nat} {Q : sm_Q} {I : sm_MI} {J : sm_MJ} {x2 : Int32} {Iz : sm_MI}
    (hD : 0 ≤ D) (h : F_State_readFrom x2 I = some (Iz)) (hQ : Q (.inl none) (Iz, J, sm_rf t d))  : sm_W sm_sh X (sm_C sm_sh X sm_P D) me_60 Q (0, [some (.ref 9), some (.ref 10), some (.int x2)], [], 0, 0) (I, J, sm_rf t d) := by
  unfold F_State_readFrom at h
  refine sm_W.run (sm_C_mono D) 2 (G := True) (fr' := (if decide (x2 < 0) = true then 8 else 2, [some (.ref 9), some (.ref 10), some (.int x2)], [], 0, 0)) (M' := (I, J, sm_rf t d)) rfl trivial (sm_W.iteD h (fun hc h => ?_) (fun hc h => ?_))
  · cases h
    exact sm_W.ret (sm_C_mono D) rfl hQ
  · refine sm_W.run (sm_C_mono D) 6 (G := True) (fr' := (if decide (x2 ≤ ((200 : Int32) - (5 : Int32))) = true then 9 else 8, [some (.ref 9), some (.ref 10), some (.int x2)], [], 0, 0)) (M' := (I, J, sm_rf t d)) rfl trivial (sm_W.iteD h (fun hc h => ?_) (fun hc h => ?_))
    · obtain ⟨g1, h⟩ := sd_gu_go h
      refine sm_W.runL (sm_C_mono D) 5 (G := sm_in x2 200 = true ∧ True) (e := (sd_up I 9 0 (I 10 (Int32.toNatClampNeg x2)))) (fr' := fun _ => (14, [some (.ref 9), some (.ref 10), some (.int x2)], [], 0, 0)) (M' := fun I2 => (I2, J, sm_rf t d)) rfl h ⟨g1, trivial⟩ (fun I2 h => ?_)
      obtain ⟨g3, h⟩ := sd_gu_go h
      refine sm_W.runL (sm_C_mono D) 7 (G := sm_in (x2 + (1 : Int32)) 200 = true ∧ True) (e := (sd_up I2 9 1 (I2 10 (Int32.toNatClampNeg (x2 + (1 : Int32)))))) (fr' := fun _ => (21, [some (.ref 9), some (.ref 10), some (.int x2)], [], 0, 0)) (M' := fun I4 => (I4, J, sm_rf t d)) rfl h ⟨g3, trivial⟩ (fun I4 h => ?_)
      obtain ⟨g5, h⟩ := sd_gu_go h
      refine sm_W.runL (sm_C_mono D) 7 (G := sm_in (x2 + (2 : Int32)) 200 = true ∧ True) (e := (sd_up I4 9 2 (I4 10 (Int32.toNatClampNeg (x2 + (2 : Int32)))))) (fr' := fun _ => (28, [some (.ref 9), some (.ref 10), some (.int x2)], [], 0, 0)) (M' := fun I6 => (I6, J, sm_rf t d)) rfl h ⟨g5, trivial⟩ (fun I6 h => ?_)
      obtain ⟨g7, h⟩ := sd_gu_go h
      refine sm_W.runL (sm_C_mono D) 7 (G := sm_in (x2 + (3 : Int32)) 200 = true ∧ True) (e := (sd_up I6 9 3 (I6 10 (Int32.toNatClampNeg (x2 + (3 : Int32)))))) (fr' := fun _ => (35, [some (.ref 9), some (.ref 10), some (.int x2)], [], 0, 0)) (M' := fun I8 => (I8, J, sm_rf t d)) rfl h ⟨g7, trivial⟩ (fun I8 h => ?_)
      obtain ⟨g9, h⟩ := sd_gu_go h
      refine sm_W.runL (sm_C_mono D) 7 (G := sm_in (x2 + (4 : Int32)) 200 = true ∧ True) (e := (sd_up I8 9 4 (I8 10 (Int32.toNatClampNeg (x2 + (4 : Int32)))))) (fr' := fun _ => (42, [some (.ref 9), some (.ref 10), some (.int x2)], [], 0, 0)) (M' := fun I10 => (I10, J, sm_rf t d)) rfl h ⟨g9, trivial⟩ (fun I10 h => ?_)
      cases h
      exact sm_W.ret (sm_C_mono D) rfl hQ
    · cases h
      exact sm_W.ret (sm_C_mono D) rfl hQ
theorem T_State_readFrom {X : Nat × (Nat → Int32)} {t d D : Nat} {Q : sm_Q} {I : sm_MI} {J : sm_MJ} {x2 : Int32} {Iz : sm_MI}
    (hD : 1 ≤ D) (h : F_State_readFrom x2 I = some (Iz)) (hQ : Q (.inl none) (Iz, J, sm_rf t d)) : sm_C sm_sh X sm_P D 60 [.ref 9, .ref 10, .int x2] (I, J, sm_rf t d) Q := by
  cases D with
  | zero => omega
  | succ D => exact sm_C.of (me := me_60) (L := [some (.ref 9), some (.ref 10), some (.int x2)]) rfl rfl rfl (sm_W.forget (L' := [some (.ref 9), some (.ref 10), some (.int x2)]) ⟨rfl, ⟨rfl, ⟨rfl, trivial⟩⟩⟩ (G_State_readFrom (by omega) h hQ))
-- 21 Story_takeBack
noncomputable def F_Story_takeBack (I : sm_MI) : Option (sm_MI) :=
  if (I 8 2) ≤ 0 then
    some (I)
  else
    sd_lt (sd_up I 8 2 ((I 8 2) - (1 : Int32))) fun I1 =>
    sd_q1 (F_State_readFrom ((I1 8 2) * (5 : Int32)) I1) fun I2 =>
    some (I2)
theorem G_Story_takeBack {X : Nat × (Nat → Int32)} {t d D : Nat} {Q : sm_Q} {I : sm_MI} {J : sm_MJ} {Iz : sm_MI}
    (hD : 1 ≤ D) (h : F_Story_takeBack I = some (Iz)) (hQ : Q (.inl none) (Iz, J, sm_rf t d))  : sm_W sm_sh X (sm_C sm_sh X sm_P D) me_21 Q (0, [some (.ref 8)], [], 0, 0) (I, J, sm_rf t d) := by
  unfold F_Story_takeBack at h
  refine sm_W.run (sm_C_mono D) 3 (G := True) (fr' := (if decide ((I 8 2) ≤ 0) = true then 18 else 3, [some (.ref 8)], [], 0, 0)) (M' := (I, J, sm_rf t d)) rfl trivial (sm_W.iteD h (fun hc h => ?_) (fun hc h => ?_))
  · cases h
    exact sm_W.ret (sm_C_mono D) rfl hQ
  · refine sm_W.runL (sm_C_mono D) 6 (G := True) (e := (sd_up I 8 2 ((I 8 2) - (1 : Int32)))) (fr' := fun _ => (9, [some (.ref 8)], [], 0, 0)) (M' := fun I1 => (I1, J, sm_rf t d)) rfl h trivial (fun I1 h => ?_)
    refine sm_W.run (sm_C_mono D) 8 (G := True) (fr' := (17, [some (.ref 8)], [.int ((I1 8 2) * (5 : Int32)), .ref 10, .ref 9], 0, 0)) (M' := (I1, J, sm_rf t d)) rfl trivial ?_
    obtain ⟨I2, hc, h⟩ := sd_q1_go h
    refine sm_W.cal (sm_C_mono D) (y := 60) (as := [.ref 9, .ref 10, .int ((I1 8 2) * (5 : Int32))]) (fr' := (18, [some (.ref 8)], [], 0, 0)) rfl (T_State_readFrom (by omega) hc ?_)
    show sm_W sm_sh X (sm_C sm_sh X sm_P D) me_21 Q (18, [some (.ref 8)], [], 0, 0) (I2, J, sm_rf t d)
    cases h
    exact sm_W.ret (sm_C_mono D) rfl hQ
theorem T_Story_takeBack {X : Nat × (Nat → Int32)} {t d D : Nat} {Q : sm_Q} {I : sm_MI} {J : sm_MJ} {Iz : sm_MI}
    (hD : 2 ≤ D) (h : F_Story_takeBack I = some (Iz)) (hQ : Q (.inl none) (Iz, J, sm_rf t d)) : sm_C sm_sh X sm_P D 21 [.ref 8] (I, J, sm_rf t d) Q := by
  cases D with
  | zero => omega
  | succ D => exact sm_C.of (me := me_21) (L := [some (.ref 8)]) rfl rfl rfl (sm_W.forget (L' := [some (.ref 8)]) ⟨rfl, trivial⟩ (G_Story_takeBack (by omega) h hQ))
-- 22 Story_addHeard
noncomputable def F_Story_addHeard (x1 : Int32) (x2 : Int32) (x3 : Int32) (I : sm_MI) : Option (sm_MI) :=
  if (I 8 6) < 0 then
    some (I)
  else
    if (8 : Int32) ≤ (I 8 6) then
      some (I)
    else
      sd_gu (sm_in (I 8 6) 8 = true) <|
      sd_lt (sd_up I 11 (Int32.toNatClampNeg (I 8 6)) x1) fun I2 =>
      sd_gu (sm_in (I2 8 6) 8 = true) <|
      sd_lt (sd_up I2 12 (Int32.toNatClampNeg (I2 8 6)) x2) fun I4 =>
      sd_gu (sm_in (I4 8 6) 8 = true) <|
      sd_lt (sd_up I4 13 (Int32.toNatClampNeg (I4 8 6)) x3) fun I6 =>
      sd_lt (sd_up I6 8 6 ((I6 8 6) + (1 : Int32))) fun I7 =>
      some (I7)
theorem G_Story_addHeard {X : Nat × (Nat → Int32)} {t d D : Nat} {Q : sm_Q} {I : sm_MI} {J : sm_MJ} {x1 : Int32} {x2 : Int32} {x3 : Int32} {Iz : sm_MI}
    (hD : 0 ≤ D) (h : F_Story_addHeard x1 x2 x3 I = some (Iz)) (hQ : Q (.inl none) (Iz, J, sm_rf t d))  : sm_W sm_sh X (sm_C sm_sh X sm_P D) me_22 Q (0, [some (.ref 8), some (.int x1), some (.int x2), some (.int x3)], [], 0, 0) (I, J, sm_rf t d) := by
  unfold F_Story_addHeard at h
  refine sm_W.run (sm_C_mono D) 3 (G := True) (fr' := (if decide ((I 8 6) < 0) = true then 31 else 3, [some (.ref 8), some (.int x1), some (.int x2), some (.int x3)], [], 0, 0)) (M' := (I, J, sm_rf t d)) rfl trivial (sm_W.iteD h (fun hc h => ?_) (fun hc h => ?_))
  · cases h
    exact sm_W.ret (sm_C_mono D) rfl hQ
  · refine sm_W.run (sm_C_mono D) 4 (G := True) (fr' := (if decide ((8 : Int32) ≤ (I 8 6)) = true then 31 else 7, [some (.ref 8), some (.int x1), some (.int x2), some (.int x3)], [], 0, 0)) (M' := (I, J, sm_rf t d)) rfl trivial (sm_W.iteD h (fun hc h => ?_) (fun hc h => ?_))
    · cases h
      exact sm_W.ret (sm_C_mono D) rfl hQ
    · obtain ⟨g1, h⟩ := sd_gu_go h
      refine sm_W.runL (sm_C_mono D) 6 (G := sm_in (I 8 6) 8 = true ∧ True) (e := (sd_up I 11 (Int32.toNatClampNeg (I 8 6)) x1)) (fr' := fun _ => (13, [some (.ref 8), some (.int x1), some (.int x2), some (.int x3)], [], 0, 0)) (M' := fun I2 => (I2, J, sm_rf t d)) rfl h ⟨g1, trivial⟩ (fun I2 h => ?_)
      obtain ⟨g3, h⟩ := sd_gu_go h
      refine sm_W.runL (sm_C_mono D) 6 (G := sm_in (I2 8 6) 8 = true ∧ True) (e := (sd_up I2 12 (Int32.toNatClampNeg (I2 8 6)) x2)) (fr' := fun _ => (19, [some (.ref 8), some (.int x1), some (.int x2), some (.int x3)], [], 0, 0)) (M' := fun I4 => (I4, J, sm_rf t d)) rfl h ⟨g3, trivial⟩ (fun I4 h => ?_)
      obtain ⟨g5, h⟩ := sd_gu_go h
      refine sm_W.runL (sm_C_mono D) 6 (G := sm_in (I4 8 6) 8 = true ∧ True) (e := (sd_up I4 13 (Int32.toNatClampNeg (I4 8 6)) x3)) (fr' := fun _ => (25, [some (.ref 8), some (.int x1), some (.int x2), some (.int x3)], [], 0, 0)) (M' := fun I6 => (I6, J, sm_rf t d)) rfl h ⟨g5, trivial⟩ (fun I6 h => ?_)
      refine sm_W.runL (sm_C_mono D) 6 (G := True) (e := (sd_up I6 8 6 ((I6 8 6) + (1 : Int32)))) (fr' := fun _ => (31, [some (.ref 8), some (.int x1), some (.int x2), some (.int x3)], [], 0, 0)) (M' := fun I7 => (I7, J, sm_rf t d)) rfl h trivial (fun I7 h => ?_)
      cases h
      exact sm_W.ret (sm_C_mono D) rfl hQ
theorem T_Story_addHeard {X : Nat × (Nat → Int32)} {t d D : Nat} {Q : sm_Q} {I : sm_MI} {J : sm_MJ} {x1 : Int32} {x2 : Int32} {x3 : Int32} {Iz : sm_MI}
    (hD : 1 ≤ D) (h : F_Story_addHeard x1 x2 x3 I = some (Iz)) (hQ : Q (.inl none) (Iz, J, sm_rf t d)) : sm_C sm_sh X sm_P D 22 [.ref 8, .int x1, .int x2, .int x3] (I, J, sm_rf t d) Q := by
  cases D with
  | zero => omega
  | succ D => exact sm_C.of (me := me_22) (L := [some (.ref 8), some (.int x1), some (.int x2), some (.int x3)]) rfl rfl rfl (sm_W.forget (L' := [some (.ref 8), some (.int x1), some (.int x2), some (.int x3)]) ⟨rfl, ⟨rfl, ⟨rfl, ⟨rfl, trivial⟩⟩⟩⟩ (G_Story_addHeard (by omega) h hQ))
-- 24 Count_slipWays
noncomputable def F_Count_slipWays_4B (k4 : Int32 → Int32 → Int64 → Int32 → Option (Int64)) (x0 : Int32) (x1 : Int32) (x2 : Int64) (x4 : Int32) : Option (Int64) :=
  if x1 < x4 then
    some (x2)
  else
    if x0 < x4 then
      some (x2)
    else
      if (12 : Int32) < x4 then
        some (x2)
      else
        sd_q1 (F_Count_choose x0 x4) fun r1 =>
        sd_lt (x2 + (r1 <<< (Int32.toInt64 x4 &&& 63))) fun a2 =>
        k4 x0 x1 a2 (x4 + (1 : Int32))
noncomputable def F_Count_slipWays_4  (n : Nat) : Int32 → Int32 → Int64 → Int32 → Option (Int64) :=
  sd_fix (fun k x0 x1 x2 x4 => F_Count_slipWays_4B k x0 x1 x2 x4) (fun _ _ _ _ => none) n
noncomputable def F_Count_slipWays (x0 : Int32) (x1 : Int32) : Option (Int64) :=
  F_Count_slipWays_4 sd_fu x0 x1 (0 : Int64) (0 : Int32)
theorem G_Count_slipWays_4B {X : Nat × (Nat → Int32)} {t d D : Nat} {Q : sm_Q} {I : sm_MI} {J : sm_MJ} {k4 : Int32 → Int32 → Int64 → Int32 → Option (Int64)} {x0 : Int32} {x1 : Int32} {x2 : Int64} {x4 : Int32} {rz : Int64}
    (hD : 1 ≤ D) (h : F_Count_slipWays_4B k4 x0 x1 x2 x4 = some (rz)) (hQ : Q (.inl (some (.long rz))) (I, J, sm_rf t d)) (hk4 : ∀ (x0 : Int32) (x1 : Int32) (x2 : Int64) (x4 : Int32), k4 x0 x1 x2 x4 = some (rz) → sm_W sm_sh X (sm_C sm_sh X sm_P D) me_24 Q (4, [some (.int x0), some (.int x1), some (.long x2), none, some (.int x4)], [], 0, 0) (I, J, sm_rf t d)) : sm_W sm_sh X (sm_C sm_sh X sm_P D) me_24 Q (4, [some (.int x0), some (.int x1), some (.long x2), none, some (.int x4)], [], 0, 0) (I, J, sm_rf t d) := by
  unfold F_Count_slipWays_4B at h
  refine sm_W.run (sm_C_mono D) 3 (G := True) (fr' := (if decide (x1 < x4) = true then 23 else 7, [some (.int x0), some (.int x1), some (.long x2), none, some (.int x4)], [], 0, 0)) (M' := (I, J, sm_rf t d)) rfl trivial (sm_W.iteD h (fun hc h => ?_) (fun hc h => ?_))
  · refine sm_W.run (sm_C_mono D) 1 (G := True) (fr' := (24, [some (.int x0), some (.int x1), some (.long x2), none, some (.int x4)], [.long x2], 0, 0)) (M' := (I, J, sm_rf t d)) rfl trivial ?_
    cases h
    exact sm_W.ret (sm_C_mono D) rfl hQ
  · refine sm_W.run (sm_C_mono D) 3 (G := True) (fr' := (if decide (x0 < x4) = true then 23 else 10, [some (.int x0), some (.int x1), some (.long x2), none, some (.int x4)], [], 0, 0)) (M' := (I, J, sm_rf t d)) rfl trivial (sm_W.iteD h (fun hc h => ?_) (fun hc h => ?_))
    · refine sm_W.run (sm_C_mono D) 1 (G := True) (fr' := (24, [some (.int x0), some (.int x1), some (.long x2), none, some (.int x4)], [.long x2], 0, 0)) (M' := (I, J, sm_rf t d)) rfl trivial ?_
      cases h
      exact sm_W.ret (sm_C_mono D) rfl hQ
    · refine sm_W.run (sm_C_mono D) 3 (G := True) (fr' := (if decide ((12 : Int32) < x4) = true then 23 else 13, [some (.int x0), some (.int x1), some (.long x2), none, some (.int x4)], [], 0, 0)) (M' := (I, J, sm_rf t d)) rfl trivial (sm_W.iteD h (fun hc h => ?_) (fun hc h => ?_))
      · refine sm_W.run (sm_C_mono D) 1 (G := True) (fr' := (24, [some (.int x0), some (.int x1), some (.long x2), none, some (.int x4)], [.long x2], 0, 0)) (M' := (I, J, sm_rf t d)) rfl trivial ?_
        cases h
        exact sm_W.ret (sm_C_mono D) rfl hQ
      · refine sm_W.run (sm_C_mono D) 3 (G := True) (fr' := (16, [some (.int x0), some (.int x1), some (.long x2), none, some (.int x4)], [.int x4, .int x0, .long x2], 0, 0)) (M' := (I, J, sm_rf t d)) rfl trivial ?_
        obtain ⟨r1, hc, h⟩ := sd_q1_go h
        refine sm_W.cal (sm_C_mono D) (y := 23) (as := [.int x0, .int x4]) (fr' := (17, [some (.int x0), some (.int x1), some (.long x2), none, some (.int x4)], [.long x2], 0, 0)) rfl (T_Count_choose (by omega) hc ?_)
        show sm_W sm_sh X (sm_C sm_sh X sm_P D) me_24 Q (17, [some (.int x0), some (.int x1), some (.long x2), none, some (.int x4)], [.long r1, .long x2], 0, 0) (I, J, sm_rf t d)
        refine sm_W.runL (sm_C_mono D) 4 (G := True) (e := (x2 + (r1 <<< (Int32.toInt64 x4 &&& 63)))) (fr' := fun a2 => (21, [some (.int x0), some (.int x1), some (.long a2), none, some (.int x4)], [], 0, 0)) (M' := fun _ => (I, J, sm_rf t d)) rfl h trivial (fun a2 h => ?_)
        refine sm_W.run (sm_C_mono D) 2 (G := True) (fr' := (4, [some (.int x0), some (.int x1), some (.long a2), none, some (.int (x4 + (1 : Int32)))], [], 0, 0)) (M' := (I, J, sm_rf t d)) rfl trivial ?_
        exact (hk4 _ _ _ _ h)
theorem G_Count_slipWays_4 {X : Nat × (Nat → Int32)} {t d D : Nat} {Q : sm_Q} {I : sm_MI} {J : sm_MJ} {rz : Int64}
    (hD : 1 ≤ D) (hQ : Q (.inl (some (.long rz))) (I, J, sm_rf t d))  : ∀ (n : Nat) (x0 : Int32) (x1 : Int32) (x2 : Int64) (x4 : Int32), F_Count_slipWays_4 n x0 x1 x2 x4 = some (rz) → sm_W sm_sh X (sm_C sm_sh X sm_P D) me_24 Q (4, [some (.int x0), some (.int x1), some (.long x2), none, some (.int x4)], [], 0, 0) (I, J, sm_rf t d) := by
  intro n
  induction n with
  | zero => intro x0 x1 x2 x4 h; cases (show (none : Option (Int64)) = some (rz) from h)
  | succ n ih => intro x0 x1 x2 x4 h; exact G_Count_slipWays_4B hD (show F_Count_slipWays_4B (F_Count_slipWays_4 n) x0 x1 x2 x4 = some (rz) from h) hQ  ih
theorem G_Count_slipWays {X : Nat × (Nat → Int32)} {t d D : Nat} {Q : sm_Q} {I : sm_MI} {J : sm_MJ} {x0 : Int32} {x1 : Int32} {rz : Int64}
    (hD : 1 ≤ D) (h : F_Count_slipWays x0 x1 = some (rz)) (hQ : Q (.inl (some (.long rz))) (I, J, sm_rf t d))  : sm_W sm_sh X (sm_C sm_sh X sm_P D) me_24 Q (0, [some (.int x0), some (.int x1), none, none, none], [], 0, 0) (I, J, sm_rf t d) := by
  unfold F_Count_slipWays at h
  refine sm_W.run (sm_C_mono D) 4 (G := True) (fr' := (4, [some (.int x0), some (.int x1), some (.long (0 : Int64)), none, some (.int (0 : Int32))], [], 0, 0)) (M' := (I, J, sm_rf t d)) rfl trivial ?_
  exact (G_Count_slipWays_4 hD hQ sd_fu _ _ _ _ h)
theorem T_Count_slipWays {X : Nat × (Nat → Int32)} {t d D : Nat} {Q : sm_Q} {I : sm_MI} {J : sm_MJ} {x0 : Int32} {x1 : Int32} {rz : Int64}
    (hD : 2 ≤ D) (h : F_Count_slipWays x0 x1 = some (rz)) (hQ : Q (.inl (some (.long rz))) (I, J, sm_rf t d)) : sm_C sm_sh X sm_P D 24 [.int x0, .int x1] (I, J, sm_rf t d) Q := by
  cases D with
  | zero => omega
  | succ D => exact sm_C.of (me := me_24) (L := [some (.int x0), some (.int x1), none, none, none]) rfl rfl rfl (sm_W.forget (L' := [some (.int x0), some (.int x1), none, none, none]) ⟨rfl, ⟨rfl, trivial⟩⟩ (G_Count_slipWays (by omega) h hQ))
-- 25 Count_commonDivisor
noncomputable def F_Count_commonDivisor_6B (k6 : Int64 → Int64 → Int32 → Option (Int64)) (x4 : Int64) (x6 : Int64) (x8 : Int32) : Option (Int64) :=
  if (200 : Int32) ≤ x8 then
    some (x4)
  else
    if (lg_cmp x6 (0 : Int64)) = 0 then
      some (x4)
    else
      sd_gu (¬ x6 = 0) <|
      sd_lt (sd_modJ x4 x6) fun a2 =>
      k6 x6 a2 (x8 + (1 : Int32))
noncomputable def F_Count_commonDivisor_6  (n : Nat) : Int64 → Int64 → Int32 → Option (Int64) :=
  sd_fix (fun k x4 x6 x8 => F_Count_commonDivisor_6B k x4 x6 x8) (fun _ _ _ => none) n
noncomputable def F_Count_commonDivisor (x0 : Int64) (x2 : Int64) : Option (Int64) :=
  F_Count_commonDivisor_6 sd_fu x0 x2 (0 : Int32)
theorem G_Count_commonDivisor_6B {X : Nat × (Nat → Int32)} {t d D : Nat} {Q : sm_Q} {I : sm_MI} {J : sm_MJ} {k6 : Int64 → Int64 → Int32 → Option (Int64)} {x4 : Int64} {x6 : Int64} {x8 : Int32} {rz : Int64}
    (hD : 0 ≤ D) (h : F_Count_commonDivisor_6B k6 x4 x6 x8 = some (rz)) (hQ : Q (.inl (some (.long rz))) (I, J, sm_rf t d)) (hk6 : ∀ (x4 : Int64) (x6 : Int64) (x8 : Int32), k6 x4 x6 x8 = some (rz) → sm_W sm_sh X (sm_C sm_sh X sm_P D) me_25 Q (6, [none, none, none, none, some (.long x4), none, some (.long x6), none, some (.int x8), none, none], [], 0, 0) (I, J, sm_rf t d)) : sm_W sm_sh X (sm_C sm_sh X sm_P D) me_25 Q (6, [none, none, none, none, some (.long x4), none, some (.long x6), none, some (.int x8), none, none], [], 0, 0) (I, J, sm_rf t d) := by
  unfold F_Count_commonDivisor_6B at h
  refine sm_W.run (sm_C_mono D) 3 (G := True) (fr' := (if decide ((200 : Int32) ≤ x8) = true then 23 else 9, [none, none, none, none, some (.long x4), none, some (.long x6), none, some (.int x8), none, none], [], 0, 0)) (M' := (I, J, sm_rf t d)) rfl trivial (sm_W.iteD h (fun hc h => ?_) (fun hc h => ?_))
  · refine sm_W.run (sm_C_mono D) 1 (G := True) (fr' := (24, [none, none, none, none, some (.long x4), none, some (.long x6), none, some (.int x8), none, none], [.long x4], 0, 0)) (M' := (I, J, sm_rf t d)) rfl trivial ?_
    cases h
    exact sm_W.ret (sm_C_mono D) rfl hQ
  · refine sm_W.run (sm_C_mono D) 4 (G := True) (fr' := (if decide ((lg_cmp x6 (0 : Int64)) = 0) = true then 23 else 13, [none, none, none, none, some (.long x4), none, some (.long x6), none, some (.int x8), none, none], [], 0, 0)) (M' := (I, J, sm_rf t d)) rfl trivial (sm_W.iteD h (fun hc h => ?_) (fun hc h => ?_))
    · refine sm_W.run (sm_C_mono D) 1 (G := True) (fr' := (24, [none, none, none, none, some (.long x4), none, some (.long x6), none, some (.int x8), none, none], [.long x4], 0, 0)) (M' := (I, J, sm_rf t d)) rfl trivial ?_
      cases h
      exact sm_W.ret (sm_C_mono D) rfl hQ
    · obtain ⟨g1, h⟩ := sd_gu_go h
      refine sm_W.runL (sm_C_mono D) 4 (G := ¬ x6 = 0 ∧ True) (e := (sd_modJ x4 x6)) (fr' := fun a2 => (17, [none, none, none, none, some (.long x4), none, some (.long x6), none, some (.int x8), some (.long a2), none], [], 0, 0)) (M' := fun _ => (I, J, sm_rf t d)) rfl h ⟨g1, trivial⟩ (fun a2 h => ?_)
      refine sm_W.run (sm_C_mono D) 6 (G := True) (fr' := (6, [none, none, none, none, some (.long x6), none, some (.long a2), none, some (.int (x8 + (1 : Int32))), some (.long a2), none], [], 0, 0)) (M' := (I, J, sm_rf t d)) rfl trivial ?_
      exact sm_W.forget (L' := [none, none, none, none, some (.long x6), none, some (.long a2), none, some (.int (x8 + (1 : Int32))), none, none]) ⟨rfl, ⟨rfl, ⟨rfl, trivial⟩⟩⟩ (hk6 _ _ _ h)
theorem G_Count_commonDivisor_6 {X : Nat × (Nat → Int32)} {t d D : Nat} {Q : sm_Q} {I : sm_MI} {J : sm_MJ} {rz : Int64}
    (hD : 0 ≤ D) (hQ : Q (.inl (some (.long rz))) (I, J, sm_rf t d))  : ∀ (n : Nat) (x4 : Int64) (x6 : Int64) (x8 : Int32), F_Count_commonDivisor_6 n x4 x6 x8 = some (rz) → sm_W sm_sh X (sm_C sm_sh X sm_P D) me_25 Q (6, [none, none, none, none, some (.long x4), none, some (.long x6), none, some (.int x8), none, none], [], 0, 0) (I, J, sm_rf t d) := by
  intro n
  induction n with
  | zero => intro x4 x6 x8 h; cases (show (none : Option (Int64)) = some (rz) from h)
  | succ n ih => intro x4 x6 x8 h; exact G_Count_commonDivisor_6B hD (show F_Count_commonDivisor_6B (F_Count_commonDivisor_6 n) x4 x6 x8 = some (rz) from h) hQ  ih
theorem G_Count_commonDivisor {X : Nat × (Nat → Int32)} {t d D : Nat} {Q : sm_Q} {I : sm_MI} {J : sm_MJ} {x0 : Int64} {x2 : Int64} {rz : Int64}
    (hD : 0 ≤ D) (h : F_Count_commonDivisor x0 x2 = some (rz)) (hQ : Q (.inl (some (.long rz))) (I, J, sm_rf t d))  : sm_W sm_sh X (sm_C sm_sh X sm_P D) me_25 Q (0, [some (.long x0), none, some (.long x2), none, none, none, none, none, none, none, none], [], 0, 0) (I, J, sm_rf t d) := by
  unfold F_Count_commonDivisor at h
  refine sm_W.run (sm_C_mono D) 6 (G := True) (fr' := (6, [some (.long x0), none, some (.long x2), none, some (.long x0), none, some (.long x2), none, some (.int (0 : Int32)), none, none], [], 0, 0)) (M' := (I, J, sm_rf t d)) rfl trivial ?_
  exact sm_W.forget (L' := [none, none, none, none, some (.long x0), none, some (.long x2), none, some (.int (0 : Int32)), none, none]) ⟨rfl, ⟨rfl, ⟨rfl, trivial⟩⟩⟩ (G_Count_commonDivisor_6 hD hQ sd_fu _ _ _ h)
theorem T_Count_commonDivisor {X : Nat × (Nat → Int32)} {t d D : Nat} {Q : sm_Q} {I : sm_MI} {J : sm_MJ} {x0 : Int64} {x2 : Int64} {rz : Int64}
    (hD : 1 ≤ D) (h : F_Count_commonDivisor x0 x2 = some (rz)) (hQ : Q (.inl (some (.long rz))) (I, J, sm_rf t d)) : sm_C sm_sh X sm_P D 25 [.long x0, .long x2] (I, J, sm_rf t d) Q := by
  cases D with
  | zero => omega
  | succ D => exact sm_C.of (me := me_25) (L := [some (.long x0), none, some (.long x2), none, none, none, none, none, none, none, none]) rfl rfl rfl (sm_W.forget (L' := [some (.long x0), none, some (.long x2), none, none, none, none, none, none, none, none]) ⟨rfl, ⟨rfl, trivial⟩⟩ (G_Count_commonDivisor (by omega) h hQ))
-- 33 Reader_atPart
noncomputable def F_Reader_atPart (I : sm_MI) : Option (Int32) :=
  if (I 3 2) < (3 : Int32) then
    some ((0 : Int32))
  else
    if (6 : Int32) < (I 3 2) then
      some ((0 : Int32))
    else
      some ((1 : Int32))
theorem G_Reader_atPart {X : Nat × (Nat → Int32)} {t d D : Nat} {Q : sm_Q} {I : sm_MI} {J : sm_MJ} {rz : Int32}
    (hD : 0 ≤ D) (h : F_Reader_atPart I = some (rz)) (hQ : Q (.inl (some (.int rz))) (I, J, sm_rf t d))  : sm_W sm_sh X (sm_C sm_sh X sm_P D) me_33 Q (0, [some (.ref 3)], [], 0, 0) (I, J, sm_rf t d) := by
  unfold F_Reader_atPart at h
  refine sm_W.run (sm_C_mono D) 4 (G := True) (fr' := (if decide ((I 3 2) < (3 : Int32)) = true then 10 else 4, [some (.ref 3)], [], 0, 0)) (M' := (I, J, sm_rf t d)) rfl trivial (sm_W.iteD h (fun hc h => ?_) (fun hc h => ?_))
  · refine sm_W.run (sm_C_mono D) 1 (G := True) (fr' := (11, [some (.ref 3)], [.int (0 : Int32)], 0, 0)) (M' := (I, J, sm_rf t d)) rfl trivial ?_
    cases h
    exact sm_W.ret (sm_C_mono D) rfl hQ
  · refine sm_W.run (sm_C_mono D) 4 (G := True) (fr' := (if decide ((6 : Int32) < (I 3 2)) = true then 10 else 8, [some (.ref 3)], [], 0, 0)) (M' := (I, J, sm_rf t d)) rfl trivial (sm_W.iteD h (fun hc h => ?_) (fun hc h => ?_))
    · refine sm_W.run (sm_C_mono D) 1 (G := True) (fr' := (11, [some (.ref 3)], [.int (0 : Int32)], 0, 0)) (M' := (I, J, sm_rf t d)) rfl trivial ?_
      cases h
      exact sm_W.ret (sm_C_mono D) rfl hQ
    · refine sm_W.run (sm_C_mono D) 2 (G := True) (fr' := (11, [some (.ref 3)], [.int (1 : Int32)], 0, 0)) (M' := (I, J, sm_rf t d)) rfl trivial ?_
      cases h
      exact sm_W.ret (sm_C_mono D) rfl hQ
theorem T_Reader_atPart {X : Nat × (Nat → Int32)} {t d D : Nat} {Q : sm_Q} {I : sm_MI} {J : sm_MJ} {rz : Int32}
    (hD : 1 ≤ D) (h : F_Reader_atPart I = some (rz)) (hQ : Q (.inl (some (.int rz))) (I, J, sm_rf t d)) : sm_C sm_sh X sm_P D 33 [.ref 3] (I, J, sm_rf t d) Q := by
  cases D with
  | zero => omega
  | succ D => exact sm_C.of (me := me_33) (L := [some (.ref 3)]) rfl rfl rfl (sm_W.forget (L' := [some (.ref 3)]) ⟨rfl, trivial⟩ (G_Reader_atPart (by omega) h hQ))
