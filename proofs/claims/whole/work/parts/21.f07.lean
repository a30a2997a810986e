/-! ===== printed by wip/gen/emit_parts.py: what the methods compute ===== -/
-- 94 War_target
noncomputable def F_War_target_15B (p0 : Nat) (p1 : Nat) (k15 : Int32 → Int32 → Int32 → Int32 → Int32 → sm_MI → Option (Int32 × sm_MI)) (x2 : Int32) (x3 : Int32) (x4 : Int32) (x5 : Int32) (x6 : Int32) (I : sm_MI) : Option (Int32 × sm_MI) :=
  if (14 : Int32) ≤ x6 then
    some (x4, I)
  else
    if ((x3 >>> (x6 &&& 31)) &&& (1 : Int32)) = 0 then
      k15 x2 x3 x4 x5 (x6 + (1 : Int32)) I
    else
      sd_q2 (F_War_worthOf p0 p1 x2 x6 I) fun r1 I2 =>
      if x4 = (-1 : Int32) then
        k15 x2 x3 x6 r1 (x6 + (1 : Int32)) I2
      else
        if r1 ≤ x5 then
          k15 x2 x3 x4 x5 (x6 + (1 : Int32)) I2
        else
          k15 x2 x3 x6 r1 (x6 + (1 : Int32)) I2
noncomputable def F_War_target_15 (p0 : Nat) (p1 : Nat) (n : Nat) : Int32 → Int32 → Int32 → Int32 → Int32 → sm_MI → Option (Int32 × sm_MI) :=
  sd_fix (fun k x2 x3 x4 x5 x6 I => F_War_target_15B p0 p1 k x2 x3 x4 x5 x6 I) (fun _ _ _ _ _ _ => none) n
noncomputable def F_War_target (p0 : Nat) (p1 : Nat) (x2 : Int32) (I : sm_MI) : Option (Int32 × sm_MI) :=
  sd_q1 (F_Valley_ofSide p0 ((1 : Int32) - x2) I) fun r1 =>
  sd_lt (r1 &&& (I p1 0)) fun a2 =>
  F_War_target_15 p0 p1 sd_fu x2 a2 (-1 : Int32) (0 : Int32) (0 : Int32) I
theorem G_War_target_15B {X : Nat × (Nat → Int32)} {t d D : Nat} {Q : sm_Q} {I : sm_MI} {J : sm_MJ} {p0 : Nat} {p1 : Nat} {k15 : Int32 → Int32 → Int32 → Int32 → Int32 → sm_MI → Option (Int32 × sm_MI)} {x2 : Int32} {x3 : Int32} {x4 : Int32} {x5 : Int32} {x6 : Int32} {rz : Int32} {Iz : sm_MI}
    (hD : 3 ≤ D) (hp : (p0 = 21 ∧ p1 = 9) ∨ (p0 = 21 ∧ p1 = 20) ∨ (p0 = 41 ∧ p1 = 9) ∨ (p0 = 41 ∧ p1 = 20)) (h : F_War_target_15B p0 p1 k15 x2 x3 x4 x5 x6 I = some (rz, Iz)) (hQ : Q (.inl (some (.int rz))) (Iz, J, sm_rf t d)) (hk15 : ∀ (x2 : Int32) (x3 : Int32) (x4 : Int32) (x5 : Int32) (x6 : Int32) (I : sm_MI), k15 x2 x3 x4 x5 x6 I = some (rz, Iz) → sm_W sm_sh X (sm_C sm_sh X sm_P D) me_94 Q (15, [some (.ref p0), some (.ref p1), some (.int x2), some (.int x3), some (.int x4), some (.int x5), some (.int x6), none], [], 0, 0) (I, J, sm_rf t d)) : sm_W sm_sh X (sm_C sm_sh X sm_P D) me_94 Q (15, [some (.ref p0), some (.ref p1), some (.int x2), some (.int x3), some (.int x4), some (.int x5), some (.int x6), none], [], 0, 0) (I, J, sm_rf t d) := by
  unfold F_War_target_15B at h
  rcases hp with ⟨rfl, rfl⟩ | ⟨rfl, rfl⟩ | ⟨rfl, rfl⟩ | ⟨rfl, rfl⟩
  · skip
    refine sm_W.run (sm_C_mono D) 3 (G := True) (fr' := (if decide ((14 : Int32) ≤ x6) = true then 42 else 18, [some (.ref 21), some (.ref 9), some (.int x2), some (.int x3), some (.int x4), some (.int x5), some (.int x6), none], [], 0, 0)) (M' := (I, J, sm_rf t d)) rfl trivial (sm_W.iteD h (fun hc h => ?_) (fun hc h => ?_))
    · refine sm_W.run (sm_C_mono D) 1 (G := True) (fr' := (43, [some (.ref 21), some (.ref 9), some (.int x2), some (.int x3), some (.int x4), some (.int x5), some (.int x6), none], [.int x4], 0, 0)) (M' := (I, J, sm_rf t d)) rfl trivial ?_
      cases h
      exact sm_W.ret (sm_C_mono D) rfl hQ
    · refine sm_W.run (sm_C_mono D) 6 (G := True) (fr' := (if decide (((x3 >>> (x6 &&& 31)) &&& (1 : Int32)) = 0) = true then 40 else 24, [some (.ref 21), some (.ref 9), some (.int x2), some (.int x3), some (.int x4), some (.int x5), some (.int x6), none], [], 0, 0)) (M' := (I, J, sm_rf t d)) rfl trivial (sm_W.iteD h (fun hc h => ?_) (fun hc h => ?_))
      · refine sm_W.run (sm_C_mono D) 2 (G := True) (fr' := (15, [some (.ref 21), some (.ref 9), some (.int x2), some (.int x3), some (.int x4), some (.int x5), some (.int (x6 + (1 : Int32))), none], [], 0, 0)) (M' := (I, J, sm_rf t d)) rfl trivial ?_
        exact (hk15 _ _ _ _ _ _ h)
      · refine sm_W.run (sm_C_mono D) 4 (G := True) (fr' := (28, [some (.ref 21), some (.ref 9), some (.int x2), some (.int x3), some (.int x4), some (.int x5), some (.int x6), none], [.int x6, .int x2, .ref 9, .ref 21], 0, 0)) (M' := (I, J, sm_rf t d)) rfl trivial ?_
        obtain ⟨r1, I2, hc, h⟩ := sd_q2_go h
        refine sm_W.cal (sm_C_mono D) (y := 95) (as := [.ref 21, .ref 9, .int x2, .int x6]) (fr' := (29, [some (.ref 21), some (.ref 9), some (.int x2), some (.int x3), some (.int x4), some (.int x5), some (.int x6), none], [], 0, 0)) rfl (T_War_worthOf (by omega) (by decide) hc ?_)
        show sm_W sm_sh X (sm_C sm_sh X sm_P D) me_94 Q (29, [some (.ref 21), some (.ref 9), some (.int x2), some (.int x3), some (.int x4), some (.int x5), some (.int x6), none], [.int r1], 0, 0) (I2, J, sm_rf t d)
        refine sm_W.run (sm_C_mono D) 4 (G := True) (fr' := (if decide (x4 = (-1 : Int32)) = true then 36 else 33, [some (.ref 21), some (.ref 9), some (.int x2), some (.int x3), some (.int x4), some (.int x5), some (.int x6), some (.int r1)], [], 0, 0)) (M' := (I2, J, sm_rf t d)) rfl trivial (sm_W.iteD h (fun hc h => ?_) (fun hc h => ?_))
        · refine sm_W.run (sm_C_mono D) 6 (G := True) (fr' := (15, [some (.ref 21), some (.ref 9), some (.int x2), some (.int x3), some (.int x6), some (.int r1), some (.int (x6 + (1 : Int32))), some (.int r1)], [], 0, 0)) (M' := (I2, J, sm_rf t d)) rfl trivial ?_
          exact sm_W.forget (L' := [some (.ref 21), some (.ref 9), some (.int x2), some (.int x3), some (.int x6), some (.int r1), some (.int (x6 + (1 : Int32))), none]) ⟨rfl, ⟨rfl, ⟨rfl, ⟨rfl, ⟨rfl, ⟨rfl, ⟨rfl, trivial⟩⟩⟩⟩⟩⟩⟩ (hk15 _ _ _ _ _ _ h)
        · refine sm_W.run (sm_C_mono D) 3 (G := True) (fr' := (if decide (r1 ≤ x5) = true then 40 else 36, [some (.ref 21), some (.ref 9), some (.int x2), some (.int x3), some (.int x4), some (.int x5), some (.int x6), some (.int r1)], [], 0, 0)) (M' := (I2, J, sm_rf t d)) rfl trivial (sm_W.iteD h (fun hc h => ?_) (fun hc h => ?_))
          · refine sm_W.run (sm_C_mono D) 2 (G := True) (fr' := (15, [some (.ref 21), some (.ref 9), some (.int x2), some (.int x3), some (.int x4), some (.int x5), some (.int (x6 + (1 : Int32))), some (.int r1)], [], 0, 0)) (M' := (I2, J, sm_rf t d)) rfl trivial ?_
            exact sm_W.forget (L' := [some (.ref 21), some (.ref 9), some (.int x2), some (.int x3), some (.int x4), some (.int x5), some (.int (x6 + (1 : Int32))), none]) ⟨rfl, ⟨rfl, ⟨rfl, ⟨rfl, ⟨rfl, ⟨rfl, ⟨rfl, trivial⟩⟩⟩⟩⟩⟩⟩ (hk15 _ _ _ _ _ _ h)
          · refine sm_W.run (sm_C_mono D) 6 (G := True) (fr' := (15, [some (.ref 21), some (.ref 9), some (.int x2), some (.int x3), some (.int x6), some (.int r1), some (.int (x6 + (1 : Int32))), some (.int r1)], [], 0, 0)) (M' := (I2, J, sm_rf t d)) rfl trivial ?_
            exact sm_W.forget (L' := [some (.ref 21), some (.ref 9), some (.int x2), some (.int x3), some (.int x6), some (.int r1), some (.int (x6 + (1 : Int32))), none]) ⟨rfl, ⟨rfl, ⟨rfl, ⟨rfl, ⟨rfl, ⟨rfl, ⟨rfl, trivial⟩⟩⟩⟩⟩⟩⟩ (hk15 _ _ _ _ _ _ h)
  · skip
    refine sm_W.run (sm_C_mono D) 3 (G := True) (fr' := (if decide ((14 : Int32) ≤ x6) = true then 42 else 18, [some (.ref 21), some (.ref 20), some (.int x2), some (.int x3), some (.int x4), some (.int x5), some (.int x6), none], [], 0, 0)) (M' := (I, J, sm_rf t d)) rfl trivial (sm_W.iteD h (fun hc h => ?_) (fun hc h => ?_))
    · refine sm_W.run (sm_C_mono D) 1 (G := True) (fr' := (43, [some (.ref 21), some (.ref 20), some (.int x2), some (.int x3), some (.int x4), some (.int x5), some (.int x6), none], [.int x4], 0, 0)) (M' := (I, J, sm_rf t d)) rfl trivial ?_
      cases h
      exact sm_W.ret (sm_C_mono D) rfl hQ
    · refine sm_W.run (sm_C_mono D) 6 (G := True) (fr' := (if decide (((x3 >>> (x6 &&& 31)) &&& (1 : Int32)) = 0) = true then 40 else 24, [some (.ref 21), some (.ref 20), some (.int x2), some (.int x3), some (.int x4), some (.int x5), some (.int x6), none], [], 0, 0)) (M' := (I, J, sm_rf t d)) rfl trivial (sm_W.iteD h (fun hc h => ?_) (fun hc h => ?_))
      · refine sm_W.run (sm_C_mono D) 2 (G := True) (fr' := (15, [some (.ref 21), some (.ref 20), some (.int x2), some (.int x3), some (.int x4), some (.int x5), some (.int (x6 + (1 : Int32))), none], [], 0, 0)) (M' := (I, J, sm_rf t d)) rfl trivial ?_
        exact (hk15 _ _ _ _ _ _ h)
      · refine sm_W.run (sm_C_mono D) 4 (G := True) (fr' := (28, [some (.ref 21), some (.ref 20), some (.int x2), some (.int x3), some (.int x4), some (.int x5), some (.int x6), none], [.int x6, .int x2, .ref 20, .ref 21], 0, 0)) (M' := (I, J, sm_rf t d)) rfl trivial ?_
        obtain ⟨r1, I2, hc, h⟩ := sd_q2_go h
        refine sm_W.cal (sm_C_mono D) (y := 95) (as := [.ref 21, .ref 20, .int x2, .int x6]) (fr' := (29, [some (.ref 21), some (.ref 20), some (.int x2), some (.int x3), some (.int x4), some (.int x5), some (.int x6), none], [], 0, 0)) rfl (T_War_worthOf (by omega) (by decide) hc ?_)
        show sm_W sm_sh X (sm_C sm_sh X sm_P D) me_94 Q (29, [some (.ref 21), some (.ref 20), some (.int x2), some (.int x3), some (.int x4), some (.int x5), some (.int x6), none], [.int r1], 0, 0) (I2, J, sm_rf t d)
        refine sm_W.run (sm_C_mono D) 4 (G := True) (fr' := (if decide (x4 = (-1 : Int32)) = true then 36 else 33, [some (.ref 21), some (.ref 20), some (.int x2), some (.int x3), some (.int x4), some (.int x5), some (.int x6), some (.int r1)], [], 0, 0)) (M' := (I2, J, sm_rf t d)) rfl trivial (sm_W.iteD h (fun hc h => ?_) (fun hc h => ?_))
        · refine sm_W.run (sm_C_mono D) 6 (G := True) (fr' := (15, [some (.ref 21), some (.ref 20), some (.int x2), some (.int x3), some (.int x6), some (.int r1), some (.int (x6 + (1 : Int32))), some (.int r1)], [], 0, 0)) (M' := (I2, J, sm_rf t d)) rfl trivial ?_
          exact sm_W.forget (L' := [some (.ref 21), some (.ref 20), some (.int x2), some (.int x3), some (.int x6), some (.int r1), some (.int (x6 + (1 : Int32))), none]) ⟨rfl, ⟨rfl, ⟨rfl, ⟨rfl, ⟨rfl, ⟨rfl, ⟨rfl, trivial⟩⟩⟩⟩⟩⟩⟩ (hk15 _ _ _ _ _ _ h)
        · refine sm_W.run (sm_C_mono D) 3 (G := True) (fr' := (if decide (r1 ≤ x5) = true then 40 else 36, [some (.ref 21), some (.ref 20), some (.int x2), some (.int x3), some (.int x4), some (.int x5), some (.int x6), some (.int r1)], [], 0, 0)) (M' := (I2, J, sm_rf t d)) rfl trivial (sm_W.iteD h (fun hc h => ?_) (fun hc h => ?_))
          · refine sm_W.run (sm_C_mono D) 2 (G := True) (fr' := (15, [some (.ref 21), some (.ref 20), some (.int x2), some (.int x3), some (.int x4), some (.int x5), some (.int (x6 + (1 : Int32))), some (.int r1)], [], 0, 0)) (M' := (I2, J, sm_rf t d)) rfl trivial ?_
            exact sm_W.forget (L' := [some (.ref 21), some (.ref 20), some (.int x2), some (.int x3), some (.int x4), some (.int x5), some (.int (x6 + (1 : Int32))), none]) ⟨rfl, ⟨rfl, ⟨rfl, ⟨rfl, ⟨rfl, ⟨rfl, ⟨rfl, trivial⟩⟩⟩⟩⟩⟩⟩ (hk15 _ _ _ _ _ _ h)
          · refine sm_W.run (sm_C_mono D) 6 (G := True) (fr' := (15, [some (.ref 21), some (.ref 20), some (.int x2), some (.int x3), some (.int x6), some (.int r1), some (.int (x6 + (1 : Int32))), some (.int r1)], [], 0, 0)) (M' := (I2, J, sm_rf t d)) rfl trivial ?_
            exact sm_W.forget (L' := [some (.ref 21), some (.ref 20), some (.int x2), some (.int x3), some (.int x6), some (.int r1), some (.int (x6 + (1 : Int32))), none]) ⟨rfl, ⟨rfl, ⟨rfl, ⟨rfl, ⟨rfl, ⟨rfl, ⟨rfl, trivial⟩⟩⟩⟩⟩⟩⟩ (hk15 _ _ _ _ _ _ h)
  · skip
    refine sm_W.run (sm_C_mono D) 3 (G := True) (fr' := (if decide ((14 : Int32) ≤ x6) = true then 42 else 18, [some (.ref 41), some (.ref 9), some (.int x2), some (.int x3), some (.int x4), some (.int x5), some (.int x6), none], [], 0, 0)) (M' := (I, J, sm_rf t d)) rfl trivial (sm_W.iteD h (fun hc h => ?_) (fun hc h => ?_))
    · refine sm_W.run (sm_C_mono D) 1 (G := True) (fr' := (43, [some (.ref 41), some (.ref 9), some (.int x2), some (.int x3), some (.int x4), some (.int x5), some (.int x6), none], [.int x4], 0, 0)) (M' := (I, J, sm_rf t d)) rfl trivial ?_
      cases h
      exact sm_W.ret (sm_C_mono D) rfl hQ
    · refine sm_W.run (sm_C_mono D) 6 (G := True) (fr' := (if decide (((x3 >>> (x6 &&& 31)) &&& (1 : Int32)) = 0) = true then 40 else 24, [some (.ref 41), some (.ref 9), some (.int x2), some (.int x3), some (.int x4), some (.int x5), some (.int x6), none], [], 0, 0)) (M' := (I, J, sm_rf t d)) rfl trivial (sm_W.iteD h (fun hc h => ?_) (fun hc h => ?_))
      · refine sm_W.run (sm_C_mono D) 2 (G := True) (fr' := (15, [some (.ref 41), some (.ref 9), some (.int x2), some (.int x3), some (.int x4), some (.int x5), some (.int (x6 + (1 : Int32))), none], [], 0, 0)) (M' := (I, J, sm_rf t d)) rfl trivial ?_
        exact (hk15 _ _ _ _ _ _ h)
      · refine sm_W.run (sm_C_mono D) 4 (G := True) (fr' := (28, [some (.ref 41), some (.ref 9), some (.int x2), some (.int x3), some (.int x4), some (.int x5), some (.int x6), none], [.int x6, .int x2, .ref 9, .ref 41], 0, 0)) (M' := (I, J, sm_rf t d)) rfl trivial ?_
        obtain ⟨r1, I2, hc, h⟩ := sd_q2_go h
        refine sm_W.cal (sm_C_mono D) (y := 95) (as := [.ref 41, .ref 9, .int x2, .int x6]) (fr' := (29, [some (.ref 41), some (.ref 9), some (.int x2), some (.int x3), some (.int x4), some (.int x5), some (.int x6), none], [], 0, 0)) rfl (T_War_worthOf (by omega) (by decide) hc ?_)
        show sm_W sm_sh X (sm_C sm_sh X sm_P D) me_94 Q (29, [some (.ref 41), some (.ref 9), some (.int x2), some (.int x3), some (.int x4), some (.int x5), some (.int x6), none], [.int r1], 0, 0) (I2, J, sm_rf t d)
        refine sm_W.run (sm_C_mono D) 4 (G := True) (fr' := (if decide (x4 = (-1 : Int32)) = true then 36 else 33, [some (.ref 41), some (.ref 9), some (.int x2), some (.int x3), some (.int x4), some (.int x5), some (.int x6), some (.int r1)], [], 0, 0)) (M' := (I2, J, sm_rf t d)) rfl trivial (sm_W.iteD h (fun hc h => ?_) (fun hc h => ?_))
        · refine sm_W.run (sm_C_mono D) 6 (G := True) (fr' := (15, [some (.ref 41), some (.ref 9), some (.int x2), some (.int x3), some (.int x6), some (.int r1), some (.int (x6 + (1 : Int32))), some (.int r1)], [], 0, 0)) (M' := (I2, J, sm_rf t d)) rfl trivial ?_
          exact sm_W.forget (L' := [some (.ref 41), some (.ref 9), some (.int x2), some (.int x3), some (.int x6), some (.int r1), some (.int (x6 + (1 : Int32))), none]) ⟨rfl, ⟨rfl, ⟨rfl, ⟨rfl, ⟨rfl, ⟨rfl, ⟨rfl, trivial⟩⟩⟩⟩⟩⟩⟩ (hk15 _ _ _ _ _ _ h)
        · refine sm_W.run (sm_C_mono D) 3 (G := True) (fr' := (if decide (r1 ≤ x5) = true then 40 else 36, [some (.ref 41), some (.ref 9), some (.int x2), some (.int x3), some (.int x4), some (.int x5), some (.int x6), some (.int r1)], [], 0, 0)) (M' := (I2, J, sm_rf t d)) rfl trivial (sm_W.iteD h (fun hc h => ?_) (fun hc h => ?_))
          · refine sm_W.run (sm_C_mono D) 2 (G := True) (fr' := (15, [some (.ref 41), some (.ref 9), some (.int x2), some (.int x3), some (.int x4), some (.int x5), some (.int (x6 + (1 : Int32))), some (.int r1)], [], 0, 0)) (M' := (I2, J, sm_rf t d)) rfl trivial ?_
            exact sm_W.forget (L' := [some (.ref 41), some (.ref 9), some (.int x2), some (.int x3), some (.int x4), some (.int x5), some (.int (x6 + (1 : Int32))), none]) ⟨rfl, ⟨rfl, ⟨rfl, ⟨rfl, ⟨rfl, ⟨rfl, ⟨rfl, trivial⟩⟩⟩⟩⟩⟩⟩ (hk15 _ _ _ _ _ _ h)
          · refine sm_W.run (sm_C_mono D) 6 (G := True) (fr' := (15, [some (.ref 41), some (.ref 9), some (.int x2), some (.int x3), some (.int x6), some (.int r1), some (.int (x6 + (1 : Int32))), some (.int r1)], [], 0, 0)) (M' := (I2, J, sm_rf t d)) rfl trivial ?_
            exact sm_W.forget (L' := [some (.ref 41), some (.ref 9), some (.int x2), some (.int x3), some (.int x6), some (.int r1), some (.int (x6 + (1 : Int32))), none]) ⟨rfl, ⟨rfl, ⟨rfl, ⟨rfl, ⟨rfl, ⟨rfl, ⟨rfl, trivial⟩⟩⟩⟩⟩⟩⟩ (hk15 _ _ _ _ _ _ h)
  · skip
    refine sm_W.run (sm_C_mono D) 3 (G := True) (fr' := (if decide ((14 : Int32) ≤ x6) = true then 42 else 18, [some (.ref 41), some (.ref 20), some (.int x2), some (.int x3), some (.int x4), some (.int x5), some (.int x6), none], [], 0, 0)) (M' := (I, J, sm_rf t d)) rfl trivial (sm_W.iteD h (fun hc h => ?_) (fun hc h => ?_))
    · refine sm_W.run (sm_C_mono D) 1 (G := True) (fr' := (43, [some (.ref 41), some (.ref 20), some (.int x2), some (.int x3), some (.int x4), some (.int x5), some (.int x6), none], [.int x4], 0, 0)) (M' := (I, J, sm_rf t d)) rfl trivial ?_
      cases h
      exact sm_W.ret (sm_C_mono D) rfl hQ
    · refine sm_W.run (sm_C_mono D) 6 (G := True) (fr' := (if decide (((x3 >>> (x6 &&& 31)) &&& (1 : Int32)) = 0) = true then 40 else 24, [some (.ref 41), some (.ref 20), some (.int x2), some (.int x3), some (.int x4), some (.int x5), some (.int x6), none], [], 0, 0)) (M' := (I, J, sm_rf t d)) rfl trivial (sm_W.iteD h (fun hc h => ?_) (fun hc h => ?_))
      · refine sm_W.run (sm_C_mono D) 2 (G := True) (fr' := (15, [some (.ref 41), some (.ref 20), some (.int x2), some (.int x3), some (.int x4), some (.int x5), some (.int (x6 + (1 : Int32))), none], [], 0, 0)) (M' := (I, J, sm_rf t d)) rfl trivial ?_
        exact (hk15 _ _ _ _ _ _ h)
      · refine sm_W.run (sm_C_mono D) 4 (G := True) (fr' := (28, [some (.ref 41), some (.ref 20), some (.int x2), some (.int x3), some (.int x4), some (.int x5), some (.int x6), none], [.int x6, .int x2, .ref 20, .ref 41], 0, 0)) (M' := (I, J, sm_rf t d)) rfl trivial ?_
        obtain ⟨r1, I2, hc, h⟩ := sd_q2_go h
        refine sm_W.cal (sm_C_mono D) (y := 95) (as := [.ref 41, .ref 20, .int x2, .int x6]) (fr' := (29, [some (.ref 41), some (.ref 20), some (.int x2), some (.int x3), some (.int x4), some (.int x5), some (.int x6), none], [], 0, 0)) rfl (T_War_worthOf (by omega) (by decide) hc ?_)
        show sm_W sm_sh X (sm_C sm_sh X sm_P D) me_94 Q (29, [some (.ref 41), some (.ref 20), some (.int x2), some (.int x3), some (.int x4), some (.int x5), some (.int x6), none], [.int r1], 0, 0) (I2, J, sm_rf t d)
        refine sm_W.run (sm_C_mono D) 4 (G := True) (fr' := (if decide (x4 = (-1 : Int32)) = true then 36 else 33, [some (.ref 41), some (.ref 20), some (.int x2), some (.int x3), some (.int x4), some (.int x5), some (.int x6), some (.int r1)], [], 0, 0)) (M' := (I2, J, sm_rf t d)) rfl trivial (sm_W.iteD h (fun hc h => ?_) (fun hc h => ?_))
        · refine sm_W.run (sm_C_mono D) 6 (G := True) (fr' := (15, [some (.ref 41), some (.ref 20), some (.int x2), some (.int x3), some (.int x6), some (.int r1), some (.int (x6 + (1 : Int32))), some (.int r1)], [], 0, 0)) (M' := (I2, J, sm_rf t d)) rfl trivial ?_
          exact sm_W.forget (L' := [some (.ref 41), some (.ref 20), some (.int x2), some (.int x3), some (.int x6), some (.int r1), some (.int (x6 + (1 : Int32))), none]) ⟨rfl, ⟨rfl, ⟨rfl, ⟨rfl, ⟨rfl, ⟨rfl, ⟨rfl, trivial⟩⟩⟩⟩⟩⟩⟩ (hk15 _ _ _ _ _ _ h)
        · refine sm_W.run (sm_C_mono D) 3 (G := True) (fr' := (if decide (r1 ≤ x5) = true then 40 else 36, [some (.ref 41), some (.ref 20), some (.int x2), some (.int x3), some (.int x4), some (.int x5), some (.int x6), some (.int r1)], [], 0, 0)) (M' := (I2, J, sm_rf t d)) rfl trivial (sm_W.iteD h (fun hc h => ?_) (fun hc h => ?_))
          · refine sm_W.run (sm_C_mono D) 2 (G := True) (fr' := (15, [some (.ref 41), some (.ref 20), some (.int x2), some (.int x3), some (.int x4), some (.int x5), some (.int (x6 + (1 : Int32))), some (.int r1)], [], 0, 0)) (M' := (I2, J, sm_rf t d)) rfl trivial ?_
            exact sm_W.forget (L' := [some (.ref 41), some (.ref 20), some (.int x2), some (.int x3), some (.int x4), some (.int x5), some (.int (x6 + (1 : Int32))), none]) ⟨rfl, ⟨rfl, ⟨rfl, ⟨rfl, ⟨rfl, ⟨rfl, ⟨rfl, trivial⟩⟩⟩⟩⟩⟩⟩ (hk15 _ _ _ _ _ _ h)
          · refine sm_W.run (sm_C_mono D) 6 (G := True) (fr' := (15, [some (.ref 41), some (.ref 20), some (.int x2), some (.int x3), some (.int x6), some (.int r1), some (.int (x6 + (1 : Int32))), some (.int r1)], [], 0, 0)) (M' := (I2, J, sm_rf t d)) rfl trivial ?_
            exact sm_W.forget (L' := [some (.ref 41), some (.ref 20), some (.int x2), some (.int x3), some (.int x6), some (.int r1), some (.int (x6 + (1 : Int32))), none]) ⟨rfl, ⟨rfl, ⟨rfl, ⟨rfl, ⟨rfl, ⟨rfl, ⟨rfl, trivial⟩⟩⟩⟩⟩⟩⟩ (hk15 _ _ _ _ _ _ h)
theorem G_War_target_15 {X : Nat × (Nat → Int32)} {t d D : Nat} {Q : sm_Q} {J : sm_MJ} {p0 : Nat} {p1 : Nat} {rz : Int32} {Iz : sm_MI}
    (hD : 3 ≤ D) (hp : (p0 = 21 ∧ p1 = 9) ∨ (p0 = 21 ∧ p1 = 20) ∨ (p0 = 41 ∧ p1 = 9) ∨ (p0 = 41 ∧ p1 = 20)) (hQ : Q (.inl (some (.int rz))) (Iz, J, sm_rf t d))  : ∀ (n : Nat) (x2 : Int32) (x3 : Int32) (x4 : Int32) (x5 : Int32) (x6 : Int32) (I : sm_MI), F_War_target_15 p0 p1 n x2 x3 x4 x5 x6 I = some (rz, Iz) → sm_W sm_sh X (sm_C sm_sh X sm_P D) me_94 Q (15, [some (.ref p0), some (.ref p1), some (.int x2), some (.int x3), some (.int x4), some (.int x5), some (.int x6), none], [], 0, 0) (I, J, sm_rf t d) := by
  intro n
  induction n with
  | zero => intro x2 x3 x4 x5 x6 I h; cases (show (none : Option (Int32 × sm_MI)) = some (rz, Iz) from h)
  | succ n ih => intro x2 x3 x4 x5 x6 I h; exact G_War_target_15B hD hp (show F_War_target_15B p0 p1 (F_War_target_15 p0 p1 n) x2 x3 x4 x5 x6 I = some (rz, Iz) from h) hQ  ih
theorem G_War_target {X : Nat × (Nat → Int32)} {t d D : Nat} {Q : sm_Q} {I : sm_MI} {J : sm_MJ} {p0 : Nat} {p1 : Nat} {x2 : Int32} {rz : Int32} {Iz : sm_MI}
    (hD : 3 ≤ D) (hp : (p0 = 21 ∧ p1 = 9) ∨ (p0 = 21 ∧ p1 = 20) ∨ (p0 = 41 ∧ p1 = 9) ∨ (p0 = 41 ∧ p1 = 20)) (h : F_War_target p0 p1 x2 I = some (rz, Iz)) (hQ : Q (.inl (some (.int rz))) (Iz, J, sm_rf t d))  : sm_W sm_sh X (sm_C sm_sh X sm_P D) me_94 Q (0, [some (.ref p0), some (.ref p1), some (.int x2), none, none, none, none, none], [], 0, 0) (I, J, sm_rf t d) := by
  unfold F_War_target at h
  rcases hp with ⟨rfl, rfl⟩ | ⟨rfl, rfl⟩ | ⟨rfl, rfl⟩ | ⟨rfl, rfl⟩
  · skip
    refine sm_W.run (sm_C_mono D) 4 (G := True) (fr' := (4, [some (.ref 21), some (.ref 9), some (.int x2), none, none, none, none, none], [.int ((1 : Int32) - x2), .ref 21], 0, 0)) (M' := (I, J, sm_rf t d)) rfl trivial ?_
    obtain ⟨r1, hc, h⟩ := sd_q1_go h
    refine sm_W.cal (sm_C_mono D) (y := 83) (as := [.ref 21, .int ((1 : Int32) - x2)]) (fr' := (5, [some (.ref 21), some (.ref 9), some (.int x2), none, none, none, none, none], [], 0, 0)) rfl (T_Valley_ofSide (by omega) (by decide) hc ?_)
    show sm_W sm_sh X (sm_C sm_sh X sm_P D) me_94 Q (5, [some (.ref 21), some (.ref 9), some (.int x2), none, none, none, none, none], [.int r1], 0, 0) (I, J, sm_rf t d)
    refine sm_W.runL (sm_C_mono D) 4 (G := True) (e := (r1 &&& (I 9 0))) (fr' := fun a2 => (9, [some (.ref 21), some (.ref 9), some (.int x2), some (.int a2), none, none, none, none], [], 0, 0)) (M' := fun _ => (I, J, sm_rf t d)) rfl h trivial (fun a2 h => ?_)
    refine sm_W.run (sm_C_mono D) 6 (G := True) (fr' := (15, [some (.ref 21), some (.ref 9), some (.int x2), some (.int a2), some (.int (-1 : Int32)), some (.int (0 : Int32)), some (.int (0 : Int32)), none], [], 0, 0)) (M' := (I, J, sm_rf t d)) rfl trivial ?_
    exact (G_War_target_15 hD (by decide) hQ sd_fu _ _ _ _ _ _ h)
  · skip
    refine sm_W.run (sm_C_mono D) 4 (G := True) (fr' := (4, [some (.ref 21), some (.ref 20), some (.int x2), none, none, none, none, none], [.int ((1 : Int32) - x2), .ref 21], 0, 0)) (M' := (I, J, sm_rf t d)) rfl trivial ?_
    obtain ⟨r1, hc, h⟩ := sd_q1_go h
    refine sm_W.cal (sm_C_mono D) (y := 83) (as := [.ref 21, .int ((1 : Int32) - x2)]) (fr' := (5, [some (.ref 21), some (.ref 20), some (.int x2), none, none, none, none, none], [], 0, 0)) rfl (T_Valley_ofSide (by omega) (by decide) hc ?_)
    show sm_W sm_sh X (sm_C sm_sh X sm_P D) me_94 Q (5, [some (.ref 21), some (.ref 20), some (.int x2), none, none, none, none, none], [.int r1], 0, 0) (I, J, sm_rf t d)
    refine sm_W.runL (sm_C_mono D) 4 (G := True) (e := (r1 &&& (I 20 0))) (fr' := fun a2 => (9, [some (.ref 21), some (.ref 20), some (.int x2), some (.int a2), none, none, none, none], [], 0, 0)) (M' := fun _ => (I, J, sm_rf t d)) rfl h trivial (fun a2 h => ?_)
    refine sm_W.run (sm_C_mono D) 6 (G := True) (fr' := (15, [some (.ref 21), some (.ref 20), some (.int x2), some (.int a2), some (.int (-1 : Int32)), some (.int (0 : Int32)), some (.int (0 : Int32)), none], [], 0, 0)) (M' := (I, J, sm_rf t d)) rfl trivial ?_
    exact (G_War_target_15 hD (by decide) hQ sd_fu _ _ _ _ _ _ h)
  · skip
    refine sm_W.run (sm_C_mono D) 4 (G := True) (fr' := (4, [some (.ref 41), some (.ref 9), some (.int x2), none, none, none, none, none], [.int ((1 : Int32) - x2), .ref 41], 0, 0)) (M' := (I, J, sm_rf t d)) rfl trivial ?_
    obtain ⟨r1, hc, h⟩ := sd_q1_go h
    refine sm_W.cal (sm_C_mono D) (y := 83) (as := [.ref 41, .int ((1 : Int32) - x2)]) (fr' := (5, [some (.ref 41), some (.ref 9), some (.int x2), none, none, none, none, none], [], 0, 0)) rfl (T_Valley_ofSide (by omega) (by decide) hc ?_)
    show sm_W sm_sh X (sm_C sm_sh X sm_P D) me_94 Q (5, [some (.ref 41), some (.ref 9), some (.int x2), none, none, none, none, none], [.int r1], 0, 0) (I, J, sm_rf t d)
    refine sm_W.runL (sm_C_mono D) 4 (G := True) (e := (r1 &&& (I 9 0))) (fr' := fun a2 => (9, [some (.ref 41), some (.ref 9), some (.int x2), some (.int a2), none, none, none, none], [], 0, 0)) (M' := fun _ => (I, J, sm_rf t d)) rfl h trivial (fun a2 h => ?_)
    refine sm_W.run (sm_C_mono D) 6 (G := True) (fr' := (15, [some (.ref 41), some (.ref 9), some (.int x2), some (.int a2), some (.int (-1 : Int32)), some (.int (0 : Int32)), some (.int (0 : Int32)), none], [], 0, 0)) (M' := (I, J, sm_rf t d)) rfl trivial ?_
    exact (G_War_target_15 hD (by decide) hQ sd_fu _ _ _ _ _ _ h)
  · skip
    refine sm_W.run (sm_C_mono D) 4 (G := True) (fr' := (4, [some (.ref 41), some (.ref 20), some (.int x2), none, none, none, none, none], [.int ((1 : Int32) - x2), .ref 41], 0, 0)) (M' := (I, J, sm_rf t d)) rfl trivial ?_
    obtain ⟨r1, hc, h⟩ := sd_q1_go h
    refine sm_W.cal (sm_C_mono D) (y := 83) (as := [.ref 41, .int ((1 : Int32) - x2)]) (fr' := (5, [some (.ref 41), some (.ref 20), some (.int x2), none, none, none, none, none], [], 0, 0)) rfl (T_Valley_ofSide (by omega) (by decide) hc ?_)
    show sm_W sm_sh X (sm_C sm_sh X sm_P D) me_94 Q (5, [some (.ref 41), some (.ref 20), some (.int x2), none, none, none, none, none], [.int r1], 0, 0) (I, J, sm_rf t d)
    refine sm_W.runL (sm_C_mono D) 4 (G := True) (e := (r1 &&& (I 20 0))) (fr' := fun a2 => (9, [some (.ref 41), some (.ref 20), some (.int x2), some (.int a2), none, none, none, none], [], 0, 0)) (M' := fun _ => (I, J, sm_rf t d)) rfl h trivial (fun a2 h => ?_)
    refine sm_W.run (sm_C_mono D) 6 (G := True) (fr' := (15, [some (.ref 41), some (.ref 20), some (.int x2), some (.int a2), some (.int (-1 : Int32)), some (.int (0 : Int32)), some (.int (0 : Int32)), none], [], 0, 0)) (M' := (I, J, sm_rf t d)) rfl trivial ?_
    exact (G_War_target_15 hD (by decide) hQ sd_fu _ _ _ _ _ _ h)
theorem T_War_target {X : Nat × (Nat → Int32)} {t d D : Nat} {Q : sm_Q} {I : sm_MI} {J : sm_MJ} {p0 : Nat} {p1 : Nat} {x2 : Int32} {rz : Int32} {Iz : sm_MI}
    (hD : 4 ≤ D) (hp : (p0 = 21 ∧ p1 = 9) ∨ (p0 = 21 ∧ p1 = 20) ∨ (p0 = 41 ∧ p1 = 9) ∨ (p0 = 41 ∧ p1 = 20)) (h : F_War_target p0 p1 x2 I = some (rz, Iz)) (hQ : Q (.inl (some (.int rz))) (Iz, J, sm_rf t d)) : sm_C sm_sh X sm_P D 94 [.ref p0, .ref p1, .int x2] (I, J, sm_rf t d) Q := by
  cases D with
  | zero => omega
  | succ D => exact sm_C.of (me := me_94) (L := [some (.ref p0), some (.ref p1), some (.int x2), none, none, none, none, none]) rfl rfl rfl (sm_W.forget (L' := [some (.ref p0), some (.ref p1), some (.int x2), none, none, none, none, none]) ⟨rfl, ⟨rfl, ⟨rfl, trivial⟩⟩⟩ (G_War_target (by omega) hp h hQ))
-- 96 War_bitOf
noncomputable def F_War_bitOf (x0 : Int32) : Option (Int32) :=
  if ¬ x0 = (-1 : Int32) then
    some (((1 : Int32) <<< (x0 &&& 31)))
  else
    some ((0 : Int32))
theorem G_War_bitOf {X : Nat × (Nat → Int32)} {t d D : Nat} {Q : sm_Q} {I : sm_MI} {J : sm_MJ} {x0 : Int32} {rz : Int32}
    (hD : 0 ≤ D) (h : F_War_bitOf x0 = some (rz)) (hQ : Q (.inl (some (.int rz))) (I, J, sm_rf t d))  : sm_W sm_sh X (sm_C sm_sh X sm_P D) me_96 Q (0, [some (.int x0)], [], 0, 0) (I, J, sm_rf t d) := by
  unfold F_War_bitOf at h
  refine sm_W.run (sm_C_mono D) 3 (G := True) (fr' := (if decide (¬ x0 = (-1 : Int32)) = true then 5 else 3, [some (.int x0)], [], 0, 0)) (M' := (I, J, sm_rf t d)) rfl trivial (sm_W.iteD h (fun hc h => ?_) (fun hc h => ?_))
  · refine sm_W.run (sm_C_mono D) 3 (G := True) (fr' := (8, [some (.int x0)], [.int ((1 : Int32) <<< (x0 &&& 31))], 0, 0)) (M' := (I, J, sm_rf t d)) rfl trivial ?_
    cases h
    exact sm_W.ret (sm_C_mono D) rfl hQ
  · refine sm_W.run (sm_C_mono D) 2 (G := True) (fr' := (8, [some (.int x0)], [.int (0 : Int32)], 0, 0)) (M' := (I, J, sm_rf t d)) rfl trivial ?_
    cases h
    exact sm_W.ret (sm_C_mono D) rfl hQ
theorem T_War_bitOf {X : Nat × (Nat → Int32)} {t d D : Nat} {Q : sm_Q} {I : sm_MI} {J : sm_MJ} {x0 : Int32} {rz : Int32}
    (hD : 1 ≤ D) (h : F_War_bitOf x0 = some (rz)) (hQ : Q (.inl (some (.int rz))) (I, J, sm_rf t d)) : sm_C sm_sh X sm_P D 96 [.int x0] (I, J, sm_rf t d) Q := by
  cases D with
  | zero => omega
  | succ D => exact sm_C.of (me := me_96) (L := [some (.int x0)]) rfl rfl rfl (sm_W.forget (L' := [some (.int x0)]) ⟨rfl, trivial⟩ (G_War_bitOf (by omega) h hQ))
-- 97 War_shot
noncomputable def F_War_shot (p0 : Nat) (p1 : Nat) (x2 : Int32) (I : sm_MI) : Option (Int32 × sm_MI) :=
  sd_q2 (F_War_holdsFire p0 p1 x2 I) fun r1 I2 =>
  if r1 = 0 then
    sd_q2 (F_War_target p0 p1 x2 I2) fun r3 I4 =>
    sd_q1 (F_War_bitOf r3) fun r5 =>
    some (r5, I4)
  else
    some ((0 : Int32), I2)
theorem G_War_shot {X : Nat × (Nat → Int32)} {t d D : Nat} {Q : sm_Q} {I : sm_MI} {J : sm_MJ} {p0 : Nat} {p1 : Nat} {x2 : Int32} {rz : Int32} {Iz : sm_MI}
    (hD : 4 ≤ D) (hp : (p0 = 21 ∧ p1 = 9) ∨ (p0 = 21 ∧ p1 = 20) ∨ (p0 = 41 ∧ p1 = 9) ∨ (p0 = 41 ∧ p1 = 20)) (h : F_War_shot p0 p1 x2 I = some (rz, Iz)) (hQ : Q (.inl (some (.int rz))) (Iz, J, sm_rf t d))  : sm_W sm_sh X (sm_C sm_sh X sm_P D) me_97 Q (0, [some (.ref p0), some (.ref p1), some (.int x2)], [], 0, 0) (I, J, sm_rf t d) := by
  unfold F_War_shot at h
  rcases hp with ⟨rfl, rfl⟩ | ⟨rfl, rfl⟩ | ⟨rfl, rfl⟩ | ⟨rfl, rfl⟩
  · skip
    refine sm_W.run (sm_C_mono D) 3 (G := True) (fr' := (3, [some (.ref 21), some (.ref 9), some (.int x2)], [.int x2, .ref 9, .ref 21], 0, 0)) (M' := (I, J, sm_rf t d)) rfl trivial ?_
    obtain ⟨r1, I2, hc, h⟩ := sd_q2_go h
    refine sm_W.cal (sm_C_mono D) (y := 93) (as := [.ref 21, .ref 9, .int x2]) (fr' := (4, [some (.ref 21), some (.ref 9), some (.int x2)], [], 0, 0)) rfl (T_War_holdsFire (by omega) (by decide) hc ?_)
    show sm_W sm_sh X (sm_C sm_sh X sm_P D) me_97 Q (4, [some (.ref 21), some (.ref 9), some (.int x2)], [.int r1], 0, 0) (I2, J, sm_rf t d)
    refine sm_W.run (sm_C_mono D) 1 (G := True) (fr' := (if decide (r1 = 0) = true then 7 else 5, [some (.ref 21), some (.ref 9), some (.int x2)], [], 0, 0)) (M' := (I2, J, sm_rf t d)) rfl trivial (sm_W.iteD h (fun hc h => ?_) (fun hc h => ?_))
    · refine sm_W.run (sm_C_mono D) 3 (G := True) (fr' := (10, [some (.ref 21), some (.ref 9), some (.int x2)], [.int x2, .ref 9, .ref 21], 0, 0)) (M' := (I2, J, sm_rf t d)) rfl trivial ?_
      obtain ⟨r3, I4, hc, h⟩ := sd_q2_go h
      refine sm_W.cal (sm_C_mono D) (y := 94) (as := [.ref 21, .ref 9, .int x2]) (fr' := (11, [some (.ref 21), some (.ref 9), some (.int x2)], [], 0, 0)) rfl (T_War_target (by omega) (by decide) hc ?_)
      show sm_W sm_sh X (sm_C sm_sh X sm_P D) me_97 Q (11, [some (.ref 21), some (.ref 9), some (.int x2)], [.int r3], 0, 0) (I4, J, sm_rf t d)
      obtain ⟨r5, hc, h⟩ := sd_q1_go h
      refine sm_W.cal (sm_C_mono D) (y := 96) (as := [.int r3]) (fr' := (12, [some (.ref 21), some (.ref 9), some (.int x2)], [], 0, 0)) rfl (T_War_bitOf (by omega) hc ?_)
      show sm_W sm_sh X (sm_C sm_sh X sm_P D) me_97 Q (12, [some (.ref 21), some (.ref 9), some (.int x2)], [.int r5], 0, 0) (I4, J, sm_rf t d)
      cases h
      exact sm_W.ret (sm_C_mono D) rfl hQ
    · refine sm_W.run (sm_C_mono D) 2 (G := True) (fr' := (12, [some (.ref 21), some (.ref 9), some (.int x2)], [.int (0 : Int32)], 0, 0)) (M' := (I2, J, sm_rf t d)) rfl trivial ?_
      cases h
      exact sm_W.ret (sm_C_mono D) rfl hQ
  · skip
    refine sm_W.run (sm_C_mono D) 3 (G := True) (fr' := (3, [some (.ref 21), some (.ref 20), some (.int x2)], [.int x2, .ref 20, .ref 21], 0, 0)) (M' := (I, J, sm_rf t d)) rfl trivial ?_
    obtain ⟨r1, I2, hc, h⟩ := sd_q2_go h
    refine sm_W.cal (sm_C_mono D) (y := 93) (as := [.ref 21, .ref 20, .int x2]) (fr' := (4, [some (.ref 21), some (.ref 20), some (.int x2)], [], 0, 0)) rfl (T_War_holdsFire (by omega) (by decide) hc ?_)
    show sm_W sm_sh X (sm_C sm_sh X sm_P D) me_97 Q (4, [some (.ref 21), some (.ref 20), some (.int x2)], [.int r1], 0, 0) (I2, J, sm_rf t d)
    refine sm_W.run (sm_C_mono D) 1 (G := True) (fr' := (if decide (r1 = 0) = true then 7 else 5, [some (.ref 21), some (.ref 20), some (.int x2)], [], 0, 0)) (M' := (I2, J, sm_rf t d)) rfl trivial (sm_W.iteD h (fun hc h => ?_) (fun hc h => ?_))
    · refine sm_W.run (sm_C_mono D) 3 (G := True) (fr' := (10, [some (.ref 21), some (.ref 20), some (.int x2)], [.int x2, .ref 20, .ref 21], 0, 0)) (M' := (I2, J, sm_rf t d)) rfl trivial ?_
      obtain ⟨r3, I4, hc, h⟩ := sd_q2_go h
      refine sm_W.cal (sm_C_mono D) (y := 94) (as := [.ref 21, .ref 20, .int x2]) (fr' := (11, [some (.ref 21), some (.ref 20), some (.int x2)], [], 0, 0)) rfl (T_War_target (by omega) (by decide) hc ?_)
      show sm_W sm_sh X (sm_C sm_sh X sm_P D) me_97 Q (11, [some (.ref 21), some (.ref 20), some (.int x2)], [.int r3], 0, 0) (I4, J, sm_rf t d)
      obtain ⟨r5, hc, h⟩ := sd_q1_go h
      refine sm_W.cal (sm_C_mono D) (y := 96) (as := [.int r3]) (fr' := (12, [some (.ref 21), some (.ref 20), some (.int x2)], [], 0, 0)) rfl (T_War_bitOf (by omega) hc ?_)
      show sm_W sm_sh X (sm_C sm_sh X sm_P D) me_97 Q (12, [some (.ref 21), some (.ref 20), some (.int x2)], [.int r5], 0, 0) (I4, J, sm_rf t d)
      cases h
      exact sm_W.ret (sm_C_mono D) rfl hQ
    · refine sm_W.run (sm_C_mono D) 2 (G := True) (fr' := (12, [some (.ref 21), some (.ref 20), some (.int x2)], [.int (0 : Int32)], 0, 0)) (M' := (I2, J, sm_rf t d)) rfl trivial ?_
      cases h
      exact sm_W.ret (sm_C_mono D) rfl hQ
  · skip
    refine sm_W.run (sm_C_mono D) 3 (G := True) (fr' := (3, [some (.ref 41), some (.ref 9), some (.int x2)], [.int x2, .ref 9, .ref 41], 0, 0)) (M' := (I, J, sm_rf t d)) rfl trivial ?_
    obtain ⟨r1, I2, hc, h⟩ := sd_q2_go h
    refine sm_W.cal (sm_C_mono D) (y := 93) (as := [.ref 41, .ref 9, .int x2]) (fr' := (4, [some (.ref 41), some (.ref 9), some (.int x2)], [], 0, 0)) rfl (T_War_holdsFire (by omega) (by decide) hc ?_)
    show sm_W sm_sh X (sm_C sm_sh X sm_P D) me_97 Q (4, [some (.ref 41), some (.ref 9), some (.int x2)], [.int r1], 0, 0) (I2, J, sm_rf t d)
    refine sm_W.run (sm_C_mono D) 1 (G := True) (fr' := (if decide (r1 = 0) = true then 7 else 5, [some (.ref 41), some (.ref 9), some (.int x2)], [], 0, 0)) (M' := (I2, J, sm_rf t d)) rfl trivial (sm_W.iteD h (fun hc h => ?_) (fun hc h => ?_))
    · refine sm_W.run (sm_C_mono D) 3 (G := True) (fr' := (10, [some (.ref 41), some (.ref 9), some (.int x2)], [.int x2, .ref 9, .ref 41], 0, 0)) (M' := (I2, J, sm_rf t d)) rfl trivial ?_
      obtain ⟨r3, I4, hc, h⟩ := sd_q2_go h
      refine sm_W.cal (sm_C_mono D) (y := 94) (as := [.ref 41, .ref 9, .int x2]) (fr' := (11, [some (.ref 41), some (.ref 9), some (.int x2)], [], 0, 0)) rfl (T_War_target (by omega) (by decide) hc ?_)
      show sm_W sm_sh X (sm_C sm_sh X sm_P D) me_97 Q (11, [some (.ref 41), some (.ref 9), some (.int x2)], [.int r3], 0, 0) (I4, J, sm_rf t d)
      obtain ⟨r5, hc, h⟩ := sd_q1_go h
      refine sm_W.cal (sm_C_mono D) (y := 96) (as := [.int r3]) (fr' := (12, [some (.ref 41), some (.ref 9), some (.int x2)], [], 0, 0)) rfl (T_War_bitOf (by omega) hc ?_)
      show sm_W sm_sh X (sm_C sm_sh X sm_P D) me_97 Q (12, [some (.ref 41), some (.ref 9), some (.int x2)], [.int r5], 0, 0) (I4, J, sm_rf t d)
      cases h
      exact sm_W.ret (sm_C_mono D) rfl hQ
    · refine sm_W.run (sm_C_mono D) 2 (G := True) (fr' := (12, [some (.ref 41), some (.ref 9), some (.int x2)], [.int (0 : Int32)], 0, 0)) (M' := (I2, J, sm_rf t d)) rfl trivial ?_
      cases h
      exact sm_W.ret (sm_C_mono D) rfl hQ
  · skip
    refine sm_W.run (sm_C_mono D) 3 (G := True) (fr' := (3, [some (.ref 41), some (.ref 20), some (.int x2)], [.int x2, .ref 20, .ref 41], 0, 0)) (M' := (I, J, sm_rf t d)) rfl trivial ?_
    obtain ⟨r1, I2, hc, h⟩ := sd_q2_go h
    refine sm_W.cal (sm_C_mono D) (y := 93) (as := [.ref 41, .ref 20, .int x2]) (fr' := (4, [some (.ref 41), some (.ref 20), some (.int x2)], [], 0, 0)) rfl (T_War_holdsFire (by omega) (by decide) hc ?_)
    show sm_W sm_sh X (sm_C sm_sh X sm_P D) me_97 Q (4, [some (.ref 41), some (.ref 20), some (.int x2)], [.int r1], 0, 0) (I2, J, sm_rf t d)
    refine sm_W.run (sm_C_mono D) 1 (G := True) (fr' := (if decide (r1 = 0) = true then 7 else 5, [some (.ref 41), some (.ref 20), some (.int x2)], [], 0, 0)) (M' := (I2, J, sm_rf t d)) rfl trivial (sm_W.iteD h (fun hc h => ?_) (fun hc h => ?_))
    · refine sm_W.run (sm_C_mono D) 3 (G := True) (fr' := (10, [some (.ref 41), some (.ref 20), some (.int x2)], [.int x2, .ref 20, .ref 41], 0, 0)) (M' := (I2, J, sm_rf t d)) rfl trivial ?_
      obtain ⟨r3, I4, hc, h⟩ := sd_q2_go h
      refine sm_W.cal (sm_C_mono D) (y := 94) (as := [.ref 41, .ref 20, .int x2]) (fr' := (11, [some (.ref 41), some (.ref 20), some (.int x2)], [], 0, 0)) rfl (T_War_target (by omega) (by decide) hc ?_)
      show sm_W sm_sh X (sm_C sm_sh X sm_P D) me_97 Q (11, [some (.ref 41), some (.ref 20), some (.int x2)], [.int r3], 0, 0) (I4, J, sm_rf t d)
      obtain ⟨r5, hc, h⟩ := sd_q1_go h
      refine sm_W.cal (sm_C_mono D) (y := 96) (as := [.int r3]) (fr' := (12, [some (.ref 41), some (.ref 20), some (.int x2)], [], 0, 0)) rfl (T_War_bitOf (by omega) hc ?_)
      show sm_W sm_sh X (sm_C sm_sh X sm_P D) me_97 Q (12, [some (.ref 41), some (.ref 20), some (.int x2)], [.int r5], 0, 0) (I4, J, sm_rf t d)
      cases h
      exact sm_W.ret (sm_C_mono D) rfl hQ
    · refine sm_W.run (sm_C_mono D) 2 (G := True) (fr' := (12, [some (.ref 41), some (.ref 20), some (.int x2)], [.int (0 : Int32)], 0, 0)) (M' := (I2, J, sm_rf t d)) rfl trivial ?_
      cases h
      exact sm_W.ret (sm_C_mono D) rfl hQ
theorem T_War_shot {X : Nat × (Nat → Int32)} {t d D : Nat} {Q : sm_Q} {I : sm_MI} {J : sm_MJ} {p0 : Nat} {p1 : Nat} {x2 : Int32} {rz : Int32} {Iz : sm_MI}
    (hD : 5 ≤ D) (hp : (p0 = 21 ∧ p1 = 9) ∨ (p0 = 21 ∧ p1 = 20) ∨ (p0 = 41 ∧ p1 = 9) ∨ (p0 = 41 ∧ p1 = 20)) (h : F_War_shot p0 p1 x2 I = some (rz, Iz)) (hQ : Q (.inl (some (.int rz))) (Iz, J, sm_rf t d)) : sm_C sm_sh X sm_P D 97 [.ref p0, .ref p1, .int x2] (I, J, sm_rf t d) Q := by
  cases D with
  | zero => omega
  | succ D => exact sm_C.of (me := me_97) (L := [some (.ref p0), some (.ref p1), some (.int x2)]) rfl rfl rfl (sm_W.forget (L' := [some (.ref p0), some (.ref p1), some (.int x2)]) ⟨rfl, ⟨rfl, ⟨rfl, trivial⟩⟩⟩ (G_War_shot (by omega) hp h hQ))
-- 98 War_passDay
noncomputable def F_War_passDay_32 (p0 : Nat) (p1 : Nat) (x2 : Int32) (I : sm_MI) : Option (Int32 × sm_MI) :=
  sd_lt (sd_up I p1 3 ((I p1 3) + (1 : Int32))) fun I1 =>
  some (x2, I1)
noncomputable def F_War_passDay_19 (p0 : Nat) (p1 : Nat) (I : sm_MI) : Option (Int32 × sm_MI) :=
  sd_q2 (F_War_shot p0 p1 (0 : Int32) I) fun r1 I2 =>
  sd_q2 (F_War_shot p0 p1 (1 : Int32) I2) fun r3 I4 =>
  sd_lt (r1 ||| r3) fun a5 =>
  sd_q1 (F_State_fell p1 a5 I4) fun I6 =>
  F_War_passDay_32 p0 p1 a5 I6
noncomputable def F_War_passDay (p0 : Nat) (p1 : Nat) (I : sm_MI) : Option (Int32 × sm_MI) :=
  sd_q1 (F_Valley_isEvening p0 (I p1 3) I) fun r1 =>
  if r1 = 0 then
    F_War_passDay_19 p0 p1 I
  else
    sd_q1 (F_Valley_singable p0 (I p1 0) I) fun r2 =>
    if r2 = 0 then
      F_War_passDay_19 p0 p1 I
    else
      sd_lt (sd_up I p1 4 ((I p1 4) + (1 : Int32))) fun I3 =>
      F_War_passDay_32 p0 p1 (0 : Int32) I3
theorem G_War_passDay_32 {X : Nat × (Nat → Int32)} {t d D : Nat} {Q : sm_Q} {I : sm_MI} {J : sm_MJ} {p0 : Nat} {p1 : Nat} {x2 : Int32} {rz : Int32} {Iz : sm_MI}
    (hD : 5 ≤ D) (hp : (p0 = 21 ∧ p1 = 9) ∨ (p0 = 21 ∧ p1 = 20) ∨ (p0 = 41 ∧ p1 = 9) ∨ (p0 = 41 ∧ p1 = 20)) (h : F_War_passDay_32 p0 p1 x2 I = some (rz, Iz)) (hQ : Q (.inl (some (.int rz))) (Iz, J, sm_rf t d))  : sm_W sm_sh X (sm_C sm_sh X sm_P D) me_98 Q (32, [none, some (.ref p1), some (.int x2)], [], 0, 0) (I, J, sm_rf t d) := by
  unfold F_War_passDay_32 at h
  rcases hp with ⟨rfl, rfl⟩ | ⟨rfl, rfl⟩ | ⟨rfl, rfl⟩ | ⟨rfl, rfl⟩
  · skip
    refine sm_W.runL (sm_C_mono D) 6 (G := True) (e := (sd_up I 9 3 ((I 9 3) + (1 : Int32)))) (fr' := fun _ => (38, [none, some (.ref 9), some (.int x2)], [], 0, 0)) (M' := fun I1 => (I1, J, sm_rf t d)) rfl h trivial (fun I1 h => ?_)
    refine sm_W.run (sm_C_mono D) 1 (G := True) (fr' := (39, [none, some (.ref 9), some (.int x2)], [.int x2], 0, 0)) (M' := (I1, J, sm_rf t d)) rfl trivial ?_
    cases h
    exact sm_W.ret (sm_C_mono D) rfl hQ
  · skip
    refine sm_W.runL (sm_C_mono D) 6 (G := True) (e := (sd_up I 20 3 ((I 20 3) + (1 : Int32)))) (fr' := fun _ => (38, [none, some (.ref 20), some (.int x2)], [], 0, 0)) (M' := fun I1 => (I1, J, sm_rf t d)) rfl h trivial (fun I1 h => ?_)
    refine sm_W.run (sm_C_mono D) 1 (G := True) (fr' := (39, [none, some (.ref 20), some (.int x2)], [.int x2], 0, 0)) (M' := (I1, J, sm_rf t d)) rfl trivial ?_
    cases h
    exact sm_W.ret (sm_C_mono D) rfl hQ
  · skip
    refine sm_W.runL (sm_C_mono D) 6 (G := True) (e := (sd_up I 9 3 ((I 9 3) + (1 : Int32)))) (fr' := fun _ => (38, [none, some (.ref 9), some (.int x2)], [], 0, 0)) (M' := fun I1 => (I1, J, sm_rf t d)) rfl h trivial (fun I1 h => ?_)
    refine sm_W.run (sm_C_mono D) 1 (G := True) (fr' := (39, [none, some (.ref 9), some (.int x2)], [.int x2], 0, 0)) (M' := (I1, J, sm_rf t d)) rfl trivial ?_
    cases h
    exact sm_W.ret (sm_C_mono D) rfl hQ
  · skip
    refine sm_W.runL (sm_C_mono D) 6 (G := True) (e := (sd_up I 20 3 ((I 20 3) + (1 : Int32)))) (fr' := fun _ => (38, [none, some (.ref 20), some (.int x2)], [], 0, 0)) (M' := fun I1 => (I1, J, sm_rf t d)) rfl h trivial (fun I1 h => ?_)
    refine sm_W.run (sm_C_mono D) 1 (G := True) (fr' := (39, [none, some (.ref 20), some (.int x2)], [.int x2], 0, 0)) (M' := (I1, J, sm_rf t d)) rfl trivial ?_
    cases h
    exact sm_W.ret (sm_C_mono D) rfl hQ
theorem G_War_passDay_19 {X : Nat × (Nat → Int32)} {t d D : Nat} {Q : sm_Q} {I : sm_MI} {J : sm_MJ} {p0 : Nat} {p1 : Nat} {rz : Int32} {Iz : sm_MI}
    (hD : 5 ≤ D) (hp : (p0 = 21 ∧ p1 = 9) ∨ (p0 = 21 ∧ p1 = 20) ∨ (p0 = 41 ∧ p1 = 9) ∨ (p0 = 41 ∧ p1 = 20)) (h : F_War_passDay_19 p0 p1 I = some (rz, Iz)) (hQ : Q (.inl (some (.int rz))) (Iz, J, sm_rf t d))  : sm_W sm_sh X (sm_C sm_sh X sm_P D) me_98 Q (19, [some (.ref p0), some (.ref p1), none], [], 0, 0) (I, J, sm_rf t d) := by
  unfold F_War_passDay_19 at h
  rcases hp with ⟨rfl, rfl⟩ | ⟨rfl, rfl⟩ | ⟨rfl, rfl⟩ | ⟨rfl, rfl⟩
  · skip
    refine sm_W.run (sm_C_mono D) 3 (G := True) (fr' := (22, [some (.ref 21), some (.ref 9), none], [.int (0 : Int32), .ref 9, .ref 21], 0, 0)) (M' := (I, J, sm_rf t d)) rfl trivial ?_
    obtain ⟨r1, I2, hc, h⟩ := sd_q2_go h
    refine sm_W.cal (sm_C_mono D) (y := 97) (as := [.ref 21, .ref 9, .int (0 : Int32)]) (fr' := (23, [some (.ref 21), some (.ref 9), none], [], 0, 0)) rfl (T_War_shot (by omega) (by decide) hc ?_)
    show sm_W sm_sh X (sm_C sm_sh X sm_P D) me_98 Q (23, [some (.ref 21), some (.ref 9), none], [.int r1], 0, 0) (I2, J, sm_rf t d)
    refine sm_W.run (sm_C_mono D) 3 (G := True) (fr' := (26, [some (.ref 21), some (.ref 9), none], [.int (1 : Int32), .ref 9, .ref 21, .int r1], 0, 0)) (M' := (I2, J, sm_rf t d)) rfl trivial ?_
    obtain ⟨r3, I4, hc, h⟩ := sd_q2_go h
    refine sm_W.cal (sm_C_mono D) (y := 97) (as := [.ref 21, .ref 9, .int (1 : Int32)]) (fr' := (27, [some (.ref 21), some (.ref 9), none], [.int r1], 0, 0)) rfl (T_War_shot (by omega) (by decide) hc ?_)
    show sm_W sm_sh X (sm_C sm_sh X sm_P D) me_98 Q (27, [some (.ref 21), some (.ref 9), none], [.int r3, .int r1], 0, 0) (I4, J, sm_rf t d)
    refine sm_W.runL (sm_C_mono D) 2 (G := True) (e := (r1 ||| r3)) (fr' := fun a5 => (29, [some (.ref 21), some (.ref 9), some (.int a5)], [], 0, 0)) (M' := fun _ => (I4, J, sm_rf t d)) rfl h trivial (fun a5 h => ?_)
    refine sm_W.run (sm_C_mono D) 2 (G := True) (fr' := (31, [some (.ref 21), some (.ref 9), some (.int a5)], [.int a5, .ref 9], 0, 0)) (M' := (I4, J, sm_rf t d)) rfl trivial ?_
    obtain ⟨I6, hc, h⟩ := sd_q1_go h
    refine sm_W.cal (sm_C_mono D) (y := 62) (as := [.ref 9, .int a5]) (fr' := (32, [some (.ref 21), some (.ref 9), some (.int a5)], [], 0, 0)) rfl (T_State_fell (by omega) (by decide) hc ?_)
    show sm_W sm_sh X (sm_C sm_sh X sm_P D) me_98 Q (32, [some (.ref 21), some (.ref 9), some (.int a5)], [], 0, 0) (I6, J, sm_rf t d)
    exact sm_W.forget (L' := [none, some (.ref 9), some (.int a5)]) ⟨rfl, ⟨rfl, trivial⟩⟩ (G_War_passDay_32 hD (by decide) h hQ)
  · skip
    refine sm_W.run (sm_C_mono D) 3 (G := True) (fr' := (22, [some (.ref 21), some (.ref 20), none], [.int (0 : Int32), .ref 20, .ref 21], 0, 0)) (M' := (I, J, sm_rf t d)) rfl trivial ?_
    obtain ⟨r1, I2, hc, h⟩ := sd_q2_go h
    refine sm_W.cal (sm_C_mono D) (y := 97) (as := [.ref 21, .ref 20, .int (0 : Int32)]) (fr' := (23, [some (.ref 21), some (.ref 20), none], [], 0, 0)) rfl (T_War_shot (by omega) (by decide) hc ?_)
    show sm_W sm_sh X (sm_C sm_sh X sm_P D) me_98 Q (23, [some (.ref 21), some (.ref 20), none], [.int r1], 0, 0) (I2, J, sm_rf t d)
    refine sm_W.run (sm_C_mono D) 3 (G := True) (fr' := (26, [some (.ref 21), some (.ref 20), none], [.int (1 : Int32), .ref 20, .ref 21, .int r1], 0, 0)) (M' := (I2, J, sm_rf t d)) rfl trivial ?_
    obtain ⟨r3, I4, hc, h⟩ := sd_q2_go h
    refine sm_W.cal (sm_C_mono D) (y := 97) (as := [.ref 21, .ref 20, .int (1 : Int32)]) (fr' := (27, [some (.ref 21), some (.ref 20), none], [.int r1], 0, 0)) rfl (T_War_shot (by omega) (by decide) hc ?_)
    show sm_W sm_sh X (sm_C sm_sh X sm_P D) me_98 Q (27, [some (.ref 21), some (.ref 20), none], [.int r3, .int r1], 0, 0) (I4, J, sm_rf t d)
    refine sm_W.runL (sm_C_mono D) 2 (G := True) (e := (r1 ||| r3)) (fr' := fun a5 => (29, [some (.ref 21), some (.ref 20), some (.int a5)], [], 0, 0)) (M' := fun _ => (I4, J, sm_rf t d)) rfl h trivial (fun a5 h => ?_)
    refine sm_W.run (sm_C_mono D) 2 (G := True) (fr' := (31, [some (.ref 21), some (.ref 20), some (.int a5)], [.int a5, .ref 20], 0, 0)) (M' := (I4, J, sm_rf t d)) rfl trivial ?_
    obtain ⟨I6, hc, h⟩ := sd_q1_go h
    refine sm_W.cal (sm_C_mono D) (y := 62) (as := [.ref 20, .int a5]) (fr' := (32, [some (.ref 21), some (.ref 20), some (.int a5)], [], 0, 0)) rfl (T_State_fell (by omega) (by decide) hc ?_)
    show sm_W sm_sh X (sm_C sm_sh X sm_P D) me_98 Q (32, [some (.ref 21), some (.ref 20), some (.int a5)], [], 0, 0) (I6, J, sm_rf t d)
    exact sm_W.forget (L' := [none, some (.ref 20), some (.int a5)]) ⟨rfl, ⟨rfl, trivial⟩⟩ (G_War_passDay_32 hD (by decide) h hQ)
  · skip
    refine sm_W.run (sm_C_mono D) 3 (G := True) (fr' := (22, [some (.ref 41), some (.ref 9), none], [.int (0 : Int32), .ref 9, .ref 41], 0, 0)) (M' := (I, J, sm_rf t d)) rfl trivial ?_
    obtain ⟨r1, I2, hc, h⟩ := sd_q2_go h
    refine sm_W.cal (sm_C_mono D) (y := 97) (as := [.ref 41, .ref 9, .int (0 : Int32)]) (fr' := (23, [some (.ref 41), some (.ref 9), none], [], 0, 0)) rfl (T_War_shot (by omega) (by decide) hc ?_)
    show sm_W sm_sh X (sm_C sm_sh X sm_P D) me_98 Q (23, [some (.ref 41), some (.ref 9), none], [.int r1], 0, 0) (I2, J, sm_rf t d)
    refine sm_W.run (sm_C_mono D) 3 (G := True) (fr' := (26, [some (.ref 41), some (.ref 9), none], [.int (1 : Int32), .ref 9, .ref 41, .int r1], 0, 0)) (M' := (I2, J, sm_rf t d)) rfl trivial ?_
    obtain ⟨r3, I4, hc, h⟩ := sd_q2_go h
    refine sm_W.cal (sm_C_mono D) (y := 97) (as := [.ref 41, .ref 9, .int (1 : Int32)]) (fr' := (27, [some (.ref 41), some (.ref 9), none], [.int r1], 0, 0)) rfl (T_War_shot (by omega) (by decide) hc ?_)
    show sm_W sm_sh X (sm_C sm_sh X sm_P D) me_98 Q (27, [some (.ref 41), some (.ref 9), none], [.int r3, .int r1], 0, 0) (I4, J, sm_rf t d)
    refine sm_W.runL (sm_C_mono D) 2 (G := True) (e := (r1 ||| r3)) (fr' := fun a5 => (29, [some (.ref 41), some (.ref 9), some (.int a5)], [], 0, 0)) (M' := fun _ => (I4, J, sm_rf t d)) rfl h trivial (fun a5 h => ?_)
    refine sm_W.run (sm_C_mono D) 2 (G := True) (fr' := (31, [some (.ref 41), some (.ref 9), some (.int a5)], [.int a5, .ref 9], 0, 0)) (M' := (I4, J, sm_rf t d)) rfl trivial ?_
    obtain ⟨I6, hc, h⟩ := sd_q1_go h
    refine sm_W.cal (sm_C_mono D) (y := 62) (as := [.ref 9, .int a5]) (fr' := (32, [some (.ref 41), some (.ref 9), some (.int a5)], [], 0, 0)) rfl (T_State_fell (by omega) (by decide) hc ?_)
    show sm_W sm_sh X (sm_C sm_sh X sm_P D) me_98 Q (32, [some (.ref 41), some (.ref 9), some (.int a5)], [], 0, 0) (I6, J, sm_rf t d)
    exact sm_W.forget (L' := [none, some (.ref 9), some (.int a5)]) ⟨rfl, ⟨rfl, trivial⟩⟩ (G_War_passDay_32 hD (by decide) h hQ)
  · skip
    refine sm_W.run (sm_C_mono D) 3 (G := True) (fr' := (22, [some (.ref 41), some (.ref 20), none], [.int (0 : Int32), .ref 20, .ref 41], 0, 0)) (M' := (I, J, sm_rf t d)) rfl trivial ?_
    obtain ⟨r1, I2, hc, h⟩ := sd_q2_go h
    refine sm_W.cal (sm_C_mono D) (y := 97) (as := [.ref 41, .ref 20, .int (0 : Int32)]) (fr' := (23, [some (.ref 41), some (.ref 20), none], [], 0, 0)) rfl (T_War_shot (by omega) (by decide) hc ?_)
    show sm_W sm_sh X (sm_C sm_sh X sm_P D) me_98 Q (23, [some (.ref 41), some (.ref 20), none], [.int r1], 0, 0) (I2, J, sm_rf t d)
    refine sm_W.run (sm_C_mono D) 3 (G := True) (fr' := (26, [some (.ref 41), some (.ref 20), none], [.int (1 : Int32), .ref 20, .ref 41, .int r1], 0, 0)) (M' := (I2, J, sm_rf t d)) rfl trivial ?_
    obtain ⟨r3, I4, hc, h⟩ := sd_q2_go h
    refine sm_W.cal (sm_C_mono D) (y := 97) (as := [.ref 41, .ref 20, .int (1 : Int32)]) (fr' := (27, [some (.ref 41), some (.ref 20), none], [.int r1], 0, 0)) rfl (T_War_shot (by omega) (by decide) hc ?_)
    show sm_W sm_sh X (sm_C sm_sh X sm_P D) me_98 Q (27, [some (.ref 41), some (.ref 20), none], [.int r3, .int r1], 0, 0) (I4, J, sm_rf t d)
    refine sm_W.runL (sm_C_mono D) 2 (G := True) (e := (r1 ||| r3)) (fr' := fun a5 => (29, [some (.ref 41), some (.ref 20), some (.int a5)], [], 0, 0)) (M' := fun _ => (I4, J, sm_rf t d)) rfl h trivial (fun a5 h => ?_)
    refine sm_W.run (sm_C_mono D) 2 (G := True) (fr' := (31, [some (.ref 41), some (.ref 20), some (.int a5)], [.int a5, .ref 20], 0, 0)) (M' := (I4, J, sm_rf t d)) rfl trivial ?_
    obtain ⟨I6, hc, h⟩ := sd_q1_go h
    refine sm_W.cal (sm_C_mono D) (y := 62) (as := [.ref 20, .int a5]) (fr' := (32, [some (.ref 41), some (.ref 20), some (.int a5)], [], 0, 0)) rfl (T_State_fell (by omega) (by decide) hc ?_)
    show sm_W sm_sh X (sm_C sm_sh X sm_P D) me_98 Q (32, [some (.ref 41), some (.ref 20), some (.int a5)], [], 0, 0) (I6, J, sm_rf t d)
    exact sm_W.forget (L' := [none, some (.ref 20), some (.int a5)]) ⟨rfl, ⟨rfl, trivial⟩⟩ (G_War_passDay_32 hD (by decide) h hQ)
theorem G_War_passDay {X : Nat × (Nat → Int32)} {t d D : Nat} {Q : sm_Q} {I : sm_MI} {J : sm_MJ} {p0 : Nat} {p1 : Nat} {rz : Int32} {Iz : sm_MI}
    (hD : 5 ≤ D) (hp : (p0 = 21 ∧ p1 = 9) ∨ (p0 = 21 ∧ p1 = 20) ∨ (p0 = 41 ∧ p1 = 9) ∨ (p0 = 41 ∧ p1 = 20)) (h : F_War_passDay p0 p1 I = some (rz, Iz)) (hQ : Q (.inl (some (.int rz))) (Iz, J, sm_rf t d))  : sm_W sm_sh X (sm_C sm_sh X sm_P D) me_98 Q (0, [some (.ref p0), some (.ref p1), none], [], 0, 0) (I, J, sm_rf t d) := by
  unfold F_War_passDay at h
  rcases hp with ⟨rfl, rfl⟩ | ⟨rfl, rfl⟩ | ⟨rfl, rfl⟩ | ⟨rfl, rfl⟩
  · skip
    refine sm_W.run (sm_C_mono D) 5 (G := True) (fr' := (5, [some (.ref 21), some (.ref 9), some (.int (0 : Int32))], [.int (I 9 3), .ref 21], 0, 0)) (M' := (I, J, sm_rf t d)) rfl trivial ?_
    obtain ⟨r1, hc, h⟩ := sd_q1_go h
    refine sm_W.cal (sm_C_mono D) (y := 92) (as := [.ref 21, .int (I 9 3)]) (fr' := (6, [some (.ref 21), some (.ref 9), some (.int (0 : Int32))], [], 0, 0)) rfl (T_Valley_isEvening (by omega) (by decide) hc ?_)
    show sm_W sm_sh X (sm_C sm_sh X sm_P D) me_98 Q (6, [some (.ref 21), some (.ref 9), some (.int (0 : Int32))], [.int r1], 0, 0) (I, J, sm_rf t d)
    refine sm_W.run (sm_C_mono D) 1 (G := True) (fr' := (if decide (r1 = 0) = true then 19 else 7, [some (.ref 21), some (.ref 9), some (.int (0 : Int32))], [], 0, 0)) (M' := (I, J, sm_rf t d)) rfl trivial (sm_W.iteD h (fun hc h => ?_) (fun hc h => ?_))
    · exact sm_W.forget (L' := [some (.ref 21), some (.ref 9), none]) ⟨rfl, ⟨rfl, trivial⟩⟩ (G_War_passDay_19 hD (by decide) h hQ)
    · refine sm_W.run (sm_C_mono D) 3 (G := True) (fr' := (10, [some (.ref 21), some (.ref 9), some (.int (0 : Int32))], [.int (I 9 0), .ref 21], 0, 0)) (M' := (I, J, sm_rf t d)) rfl trivial ?_
      obtain ⟨r2, hc, h⟩ := sd_q1_go h
      refine sm_W.cal (sm_C_mono D) (y := 89) (as := [.ref 21, .int (I 9 0)]) (fr' := (11, [some (.ref 21), some (.ref 9), some (.int (0 : Int32))], [], 0, 0)) rfl (T_Valley_singable (by omega) (by decide) hc ?_)
      show sm_W sm_sh X (sm_C sm_sh X sm_P D) me_98 Q (11, [some (.ref 21), some (.ref 9), some (.int (0 : Int32))], [.int r2], 0, 0) (I, J, sm_rf t d)
      refine sm_W.run (sm_C_mono D) 1 (G := True) (fr' := (if decide (r2 = 0) = true then 19 else 12, [some (.ref 21), some (.ref 9), some (.int (0 : Int32))], [], 0, 0)) (M' := (I, J, sm_rf t d)) rfl trivial (sm_W.iteD h (fun hc h => ?_) (fun hc h => ?_))
      · exact sm_W.forget (L' := [some (.ref 21), some (.ref 9), none]) ⟨rfl, ⟨rfl, trivial⟩⟩ (G_War_passDay_19 hD (by decide) h hQ)
      · refine sm_W.runL (sm_C_mono D) 6 (G := True) (e := (sd_up I 9 4 ((I 9 4) + (1 : Int32)))) (fr' := fun _ => (18, [some (.ref 21), some (.ref 9), some (.int (0 : Int32))], [], 0, 0)) (M' := fun I3 => (I3, J, sm_rf t d)) rfl h trivial (fun I3 h => ?_)
        refine sm_W.run (sm_C_mono D) 1 (G := True) (fr' := (32, [some (.ref 21), some (.ref 9), some (.int (0 : Int32))], [], 0, 0)) (M' := (I3, J, sm_rf t d)) rfl trivial ?_
        exact sm_W.forget (L' := [none, some (.ref 9), some (.int (0 : Int32))]) ⟨rfl, ⟨rfl, trivial⟩⟩ (G_War_passDay_32 hD (by decide) h hQ)
  · skip
    refine sm_W.run (sm_C_mono D) 5 (G := True) (fr' := (5, [some (.ref 21), some (.ref 20), some (.int (0 : Int32))], [.int (I 20 3), .ref 21], 0, 0)) (M' := (I, J, sm_rf t d)) rfl trivial ?_
    obtain ⟨r1, hc, h⟩ := sd_q1_go h
    refine sm_W.cal (sm_C_mono D) (y := 92) (as := [.ref 21, .int (I 20 3)]) (fr' := (6, [some (.ref 21), some (.ref 20), some (.int (0 : Int32))], [], 0, 0)) rfl (T_Valley_isEvening (by omega) (by decide) hc ?_)
    show sm_W sm_sh X (sm_C sm_sh X sm_P D) me_98 Q (6, [some (.ref 21), some (.ref 20), some (.int (0 : Int32))], [.int r1], 0, 0) (I, J, sm_rf t d)
    refine sm_W.run (sm_C_mono D) 1 (G := True) (fr' := (if decide (r1 = 0) = true then 19 else 7, [some (.ref 21), some (.ref 20), some (.int (0 : Int32))], [], 0, 0)) (M' := (I, J, sm_rf t d)) rfl trivial (sm_W.iteD h (fun hc h => ?_) (fun hc h => ?_))
    · exact sm_W.forget (L' := [some (.ref 21), some (.ref 20), none]) ⟨rfl, ⟨rfl, trivial⟩⟩ (G_War_passDay_19 hD (by decide) h hQ)
    · refine sm_W.run (sm_C_mono D) 3 (G := True) (fr' := (10, [some (.ref 21), some (.ref 20), some (.int (0 : Int32))], [.int (I 20 0), .ref 21], 0, 0)) (M' := (I, J, sm_rf t d)) rfl trivial ?_
      obtain ⟨r2, hc, h⟩ := sd_q1_go h
      refine sm_W.cal (sm_C_mono D) (y := 89) (as := [.ref 21, .int (I 20 0)]) (fr' := (11, [some (.ref 21), some (.ref 20), some (.int (0 : Int32))], [], 0, 0)) rfl (T_Valley_singable (by omega) (by decide) hc ?_)
      show sm_W sm_sh X (sm_C sm_sh X sm_P D) me_98 Q (11, [some (.ref 21), some (.ref 20), some (.int (0 : Int32))], [.int r2], 0, 0) (I, J, sm_rf t d)
      refine sm_W.run (sm_C_mono D) 1 (G := True) (fr' := (if decide (r2 = 0) = true then 19 else 12, [some (.ref 21), some (.ref 20), some (.int (0 : Int32))], [], 0, 0)) (M' := (I, J, sm_rf t d)) rfl trivial (sm_W.iteD h (fun hc h => ?_) (fun hc h => ?_))
      · exact sm_W.forget (L' := [some (.ref 21), some (.ref 20), none]) ⟨rfl, ⟨rfl, trivial⟩⟩ (G_War_passDay_19 hD (by decide) h hQ)
      · refine sm_W.runL (sm_C_mono D) 6 (G := True) (e := (sd_up I 20 4 ((I 20 4) + (1 : Int32)))) (fr' := fun _ => (18, [some (.ref 21), some (.ref 20), some (.int (0 : Int32))], [], 0, 0)) (M' := fun I3 => (I3, J, sm_rf t d)) rfl h trivial (fun I3 h => ?_)
        refine sm_W.run (sm_C_mono D) 1 (G := True) (fr' := (32, [some (.ref 21), some (.ref 20), some (.int (0 : Int32))], [], 0, 0)) (M' := (I3, J, sm_rf t d)) rfl trivial ?_
        exact sm_W.forget (L' := [none, some (.ref 20), some (.int (0 : Int32))]) ⟨rfl, ⟨rfl, trivial⟩⟩ (G_War_passDay_32 hD (by decide) h hQ)
  · skip
    refine sm_W.run (sm_C_mono D) 5 (G := True) (fr' := (5, [some (.ref 41), some (.ref 9), some (.int (0 : Int32))], [.int (I 9 3), .ref 41], 0, 0)) (M' := (I, J, sm_rf t d)) rfl trivial ?_
    obtain ⟨r1, hc, h⟩ := sd_q1_go h
    refine sm_W.cal (sm_C_mono D) (y := 92) (as := [.ref 41, .int (I 9 3)]) (fr' := (6, [some (.ref 41), some (.ref 9), some (.int (0 : Int32))], [], 0, 0)) rfl (T_Valley_isEvening (by omega) (by decide) hc ?_)
    show sm_W sm_sh X (sm_C sm_sh X sm_P D) me_98 Q (6, [some (.ref 41), some (.ref 9), some (.int (0 : Int32))], [.int r1], 0, 0) (I, J, sm_rf t d)
    refine sm_W.run (sm_C_mono D) 1 (G := True) (fr' := (if decide (r1 = 0) = true then 19 else 7, [some (.ref 41), some (.ref 9), some (.int (0 : Int32))], [], 0, 0)) (M' := (I, J, sm_rf t d)) rfl trivial (sm_W.iteD h (fun hc h => ?_) (fun hc h => ?_))
    · exact sm_W.forget (L' := [some (.ref 41), some (.ref 9), none]) ⟨rfl, ⟨rfl, trivial⟩⟩ (G_War_passDay_19 hD (by decide) h hQ)
    · refine sm_W.run (sm_C_mono D) 3 (G := True) (fr' := (10, [some (.ref 41), some (.ref 9), some (.int (0 : Int32))], [.int (I 9 0), .ref 41], 0, 0)) (M' := (I, J, sm_rf t d)) rfl trivial ?_
      obtain ⟨r2, hc, h⟩ := sd_q1_go h
      refine sm_W.cal (sm_C_mono D) (y := 89) (as := [.ref 41, .int (I 9 0)]) (fr' := (11, [some (.ref 41), some (.ref 9), some (.int (0 : Int32))], [], 0, 0)) rfl (T_Valley_singable (by omega) (by decide) hc ?_)
      show sm_W sm_sh X (sm_C sm_sh X sm_P D) me_98 Q (11, [some (.ref 41), some (.ref 9), some (.int (0 : Int32))], [.int r2], 0, 0) (I, J, sm_rf t d)
      refine sm_W.run (sm_C_mono D) 1 (G := True) (fr' := (if decide (r2 = 0) = true then 19 else 12, [some (.ref 41), some (.ref 9), some (.int (0 : Int32))], [], 0, 0)) (M' := (I, J, sm_rf t d)) rfl trivial (sm_W.iteD h (fun hc h => ?_) (fun hc h => ?_))
      · exact sm_W.forget (L' := [some (.ref 41), some (.ref 9), none]) ⟨rfl, ⟨rfl, trivial⟩⟩ (G_War_passDay_19 hD (by decide) h hQ)
      · refine sm_W.runL (sm_C_mono D) 6 (G := True) (e := (sd_up I 9 4 ((I 9 4) + (1 : Int32)))) (fr' := fun _ => (18, [some (.ref 41), some (.ref 9), some (.int (0 : Int32))], [], 0, 0)) (M' := fun I3 => (I3, J, sm_rf t d)) rfl h trivial (fun I3 h => ?_)
        refine sm_W.run (sm_C_mono D) 1 (G := True) (fr' := (32, [some (.ref 41), some (.ref 9), some (.int (0 : Int32))], [], 0, 0)) (M' := (I3, J, sm_rf t d)) rfl trivial ?_
        exact sm_W.forget (L' := [none, some (.ref 9), some (.int (0 : Int32))]) ⟨rfl, ⟨rfl, trivial⟩⟩ (G_War_passDay_32 hD (by decide) h hQ)
  · skip
    refine sm_W.run (sm_C_mono D) 5 (G := True) (fr' := (5, [some (.ref 41), some (.ref 20), some (.int (0 : Int32))], [.int (I 20 3), .ref 41], 0, 0)) (M' := (I, J, sm_rf t d)) rfl trivial ?_
    obtain ⟨r1, hc, h⟩ := sd_q1_go h
    refine sm_W.cal (sm_C_mono D) (y := 92) (as := [.ref 41, .int (I 20 3)]) (fr' := (6, [some (.ref 41), some (.ref 20), some (.int (0 : Int32))], [], 0, 0)) rfl (T_Valley_isEvening (by omega) (by decide) hc ?_)
    show sm_W sm_sh X (sm_C sm_sh X sm_P D) me_98 Q (6, [some (.ref 41), some (.ref 20), some (.int (0 : Int32))], [.int r1], 0, 0) (I, J, sm_rf t d)
    refine sm_W.run (sm_C_mono D) 1 (G := True) (fr' := (if decide (r1 = 0) = true then 19 else 7, [some (.ref 41), some (.ref 20), some (.int (0 : Int32))], [], 0, 0)) (M' := (I, J, sm_rf t d)) rfl trivial (sm_W.iteD h (fun hc h => ?_) (fun hc h => ?_))
    · exact sm_W.forget (L' := [some (.ref 41), some (.ref 20), none]) ⟨rfl, ⟨rfl, trivial⟩⟩ (G_War_passDay_19 hD (by decide) h hQ)
    · refine sm_W.run (sm_C_mono D) 3 (G := True) (fr' := (10, [some (.ref 41), some (.ref 20), some (.int (0 : Int32))], [.int (I 20 0), .ref 41], 0, 0)) (M' := (I, J, sm_rf t d)) rfl trivial ?_
      obtain ⟨r2, hc, h⟩ := sd_q1_go h
      refine sm_W.cal (sm_C_mono D) (y := 89) (as := [.ref 41, .int (I 20 0)]) (fr' := (11, [some (.ref 41), some (.ref 20), some (.int (0 : Int32))], [], 0, 0)) rfl (T_Valley_singable (by omega) (by decide) hc ?_)
      show sm_W sm_sh X (sm_C sm_sh X sm_P D) me_98 Q (11, [some (.ref 41), some (.ref 20), some (.int (0 : Int32))], [.int r2], 0, 0) (I, J, sm_rf t d)
      refine sm_W.run (sm_C_mono D) 1 (G := True) (fr' := (if decide (r2 = 0) = true then 19 else 12, [some (.ref 41), some (.ref 20), some (.int (0 : Int32))], [], 0, 0)) (M' := (I, J, sm_rf t d)) rfl trivial (sm_W.iteD h (fun hc h => ?_) (fun hc h => ?_))
      · exact sm_W.forget (L' := [some (.ref 41), some (.ref 20), none]) ⟨rfl, ⟨rfl, trivial⟩⟩ (G_War_passDay_19 hD (by decide) h hQ)
      · refine sm_W.runL (sm_C_mono D) 6 (G := True) (e := (sd_up I 20 4 ((I 20 4) + (1 : Int32)))) (fr' := fun _ => (18, [some (.ref 41), some (.ref 20), some (.int (0 : Int32))], [], 0, 0)) (M' := fun I3 => (I3, J, sm_rf t d)) rfl h trivial (fun I3 h => ?_)
        refine sm_W.run (sm_C_mono D) 1 (G := True) (fr' := (32, [some (.ref 41), some (.ref 20), some (.int (0 : Int32))], [], 0, 0)) (M' := (I3, J, sm_rf t d)) rfl trivial ?_
        exact sm_W.forget (L' := [none, some (.ref 20), some (.int (0 : Int32))]) ⟨rfl, ⟨rfl, trivial⟩⟩ (G_War_passDay_32 hD (by decide) h hQ)
theorem T_War_passDay {X : Nat × (Nat → Int32)} {t d D : Nat} {Q : sm_Q} {I : sm_MI} {J : sm_MJ} {p0 : Nat} {p1 : Nat} {rz : Int32} {Iz : sm_MI}
    (hD : 6 ≤ D) (hp : (p0 = 21 ∧ p1 = 9) ∨ (p0 = 21 ∧ p1 = 20) ∨ (p0 = 41 ∧ p1 = 9) ∨ (p0 = 41 ∧ p1 = 20)) (h : F_War_passDay p0 p1 I = some (rz, Iz)) (hQ : Q (.inl (some (.int rz))) (Iz, J, sm_rf t d)) : sm_C sm_sh X sm_P D 98 [.ref p0, .ref p1] (I, J, sm_rf t d) Q := by
  cases D with
  | zero => omega
  | succ D => exact sm_C.of (me := me_98) (L := [some (.ref p0), some (.ref p1), none]) rfl rfl rfl (sm_W.forget (L' := [some (.ref p0), some (.ref p1), none]) ⟨rfl, ⟨rfl, trivial⟩⟩ (G_War_passDay (by omega) hp h hQ))
-- 100 War_leftFree
noncomputable def F_War_leftFree_20 (p0 : Nat) (x4 : Int32) (I : sm_MI) : Option (Int32 × sm_MI) :=
  some (((I 9 0) &&& (x4 ^^^ (-1 : Int32))), I)
noncomputable def F_War_leftFree_9 (p0 : Nat) (x3 : Int32) (s0 : Int32) (I : sm_MI) : Option (Int32 × sm_MI) :=
  if ¬ x3 = 0 then
    F_War_leftFree_20 p0 s0 I
  else
    sd_q2 (F_War_target p0 9 (1 : Int32) I) fun r1 I2 =>
    sd_q1 (F_War_bitOf r1) fun r3 =>
    sd_lt (s0 ||| r3) fun a4 =>
    F_War_leftFree_20 p0 a4 I2
noncomputable def F_War_leftFree (p0 : Nat) (x2 : Int32) (x3 : Int32) (I : sm_MI) : Option (Int32 × sm_MI) :=
  if ¬ x2 = 0 then
    F_War_leftFree_9 p0 x3 (0 : Int32) I
  else
    sd_q2 (F_War_target p0 9 (0 : Int32) I) fun r1 I2 =>
    sd_q1 (F_War_bitOf r1) fun r3 =>
    F_War_leftFree_9 p0 x3 r3 I2
theorem G_War_leftFree_20 {X : Nat × (Nat → Int32)} {t d D : Nat} {Q : sm_Q} {I : sm_MI} {J : sm_MJ} {p0 : Nat} {x4 : Int32} {rz : Int32} {Iz : sm_MI}
    (hD : 4 ≤ D) (hp : (p0 = 21) ∨ (p0 = 41)) (h : F_War_leftFree_20 p0 x4 I = some (rz, Iz)) (hQ : Q (.inl (some (.int rz))) (Iz, J, sm_rf t d))  : sm_W sm_sh X (sm_C sm_sh X sm_P D) me_100 Q (20, [none, some (.ref 9), none, none, some (.int x4)], [], 0, 0) (I, J, sm_rf t d) := by
  unfold F_War_leftFree_20 at h
  rcases hp with rfl | rfl
  · skip
    refine sm_W.run (sm_C_mono D) 6 (G := True) (fr' := (26, [none, some (.ref 9), none, none, some (.int x4)], [.int ((I 9 0) &&& (x4 ^^^ (-1 : Int32)))], 0, 0)) (M' := (I, J, sm_rf t d)) rfl trivial ?_
    cases h
    exact sm_W.ret (sm_C_mono D) rfl hQ
  · skip
    refine sm_W.run (sm_C_mono D) 6 (G := True) (fr' := (26, [none, some (.ref 9), none, none, some (.int x4)], [.int ((I 9 0) &&& (x4 ^^^ (-1 : Int32)))], 0, 0)) (M' := (I, J, sm_rf t d)) rfl trivial ?_
    cases h
    exact sm_W.ret (sm_C_mono D) rfl hQ
theorem G_War_leftFree_9 {X : Nat × (Nat → Int32)} {t d D : Nat} {Q : sm_Q} {I : sm_MI} {J : sm_MJ} {p0 : Nat} {x3 : Int32} {s0 : Int32} {rz : Int32} {Iz : sm_MI}
    (hD : 4 ≤ D) (hp : (p0 = 21) ∨ (p0 = 41)) (h : F_War_leftFree_9 p0 x3 s0 I = some (rz, Iz)) (hQ : Q (.inl (some (.int rz))) (Iz, J, sm_rf t d))  : sm_W sm_sh X (sm_C sm_sh X sm_P D) me_100 Q (9, [some (.ref p0), some (.ref 9), none, some (.int x3), none], [.int s0], 0, 0) (I, J, sm_rf t d) := by
  unfold F_War_leftFree_9 at h
  rcases hp with rfl | rfl
  · skip
    refine sm_W.run (sm_C_mono D) 3 (G := True) (fr' := (if decide (¬ x3 = 0) = true then 20 else 12, [some (.ref 21), some (.ref 9), none, some (.int x3), some (.int s0)], [], 0, 0)) (M' := (I, J, sm_rf t d)) rfl trivial (sm_W.iteD h (fun hc h => ?_) (fun hc h => ?_))
    · exact sm_W.forget (L' := [none, some (.ref 9), none, none, some (.int s0)]) ⟨rfl, ⟨rfl, trivial⟩⟩ (G_War_leftFree_20 hD (by decide) h hQ)
    · refine sm_W.run (sm_C_mono D) 4 (G := True) (fr' := (16, [some (.ref 21), some (.ref 9), none, some (.int x3), some (.int s0)], [.int (1 : Int32), .ref 9, .ref 21, .int s0], 0, 0)) (M' := (I, J, sm_rf t d)) rfl trivial ?_
      obtain ⟨r1, I2, hc, h⟩ := sd_q2_go h
      refine sm_W.cal (sm_C_mono D) (y := 94) (as := [.ref 21, .ref 9, .int (1 : Int32)]) (fr' := (17, [some (.ref 21), some (.ref 9), none, some (.int x3), some (.int s0)], [.int s0], 0, 0)) rfl (T_War_target (by omega) (by decide) hc ?_)
      show sm_W sm_sh X (sm_C sm_sh X sm_P D) me_100 Q (17, [some (.ref 21), some (.ref 9), none, some (.int x3), some (.int s0)], [.int r1, .int s0], 0, 0) (I2, J, sm_rf t d)
      obtain ⟨r3, hc, h⟩ := sd_q1_go h
      refine sm_W.cal (sm_C_mono D) (y := 96) (as := [.int r1]) (fr' := (18, [some (.ref 21), some (.ref 9), none, some (.int x3), some (.int s0)], [.int s0], 0, 0)) rfl (T_War_bitOf (by omega) hc ?_)
      show sm_W sm_sh X (sm_C sm_sh X sm_P D) me_100 Q (18, [some (.ref 21), some (.ref 9), none, some (.int x3), some (.int s0)], [.int r3, .int s0], 0, 0) (I2, J, sm_rf t d)
      refine sm_W.runL (sm_C_mono D) 2 (G := True) (e := (s0 ||| r3)) (fr' := fun a4 => (20, [some (.ref 21), some (.ref 9), none, some (.int x3), some (.int a4)], [], 0, 0)) (M' := fun _ => (I2, J, sm_rf t d)) rfl h trivial (fun a4 h => ?_)
      exact sm_W.forget (L' := [none, some (.ref 9), none, none, some (.int a4)]) ⟨rfl, ⟨rfl, trivial⟩⟩ (G_War_leftFree_20 hD (by decide) h hQ)
  · skip
    refine sm_W.run (sm_C_mono D) 3 (G := True) (fr' := (if decide (¬ x3 = 0) = true then 20 else 12, [some (.ref 41), some (.ref 9), none, some (.int x3), some (.int s0)], [], 0, 0)) (M' := (I, J, sm_rf t d)) rfl trivial (sm_W.iteD h (fun hc h => ?_) (fun hc h => ?_))
    · exact sm_W.forget (L' := [none, some (.ref 9), none, none, some (.int s0)]) ⟨rfl, ⟨rfl, trivial⟩⟩ (G_War_leftFree_20 hD (by decide) h hQ)
    · refine sm_W.run (sm_C_mono D) 4 (G := True) (fr' := (16, [some (.ref 41), some (.ref 9), none, some (.int x3), some (.int s0)], [.int (1 : Int32), .ref 9, .ref 41, .int s0], 0, 0)) (M' := (I, J, sm_rf t d)) rfl trivial ?_
      obtain ⟨r1, I2, hc, h⟩ := sd_q2_go h
      refine sm_W.cal (sm_C_mono D) (y := 94) (as := [.ref 41, .ref 9, .int (1 : Int32)]) (fr' := (17, [some (.ref 41), some (.ref 9), none, some (.int x3), some (.int s0)], [.int s0], 0, 0)) rfl (T_War_target (by omega) (by decide) hc ?_)
      show sm_W sm_sh X (sm_C sm_sh X sm_P D) me_100 Q (17, [some (.ref 41), some (.ref 9), none, some (.int x3), some (.int s0)], [.int r1, .int s0], 0, 0) (I2, J, sm_rf t d)
      obtain ⟨r3, hc, h⟩ := sd_q1_go h
      refine sm_W.cal (sm_C_mono D) (y := 96) (as := [.int r1]) (fr' := (18, [some (.ref 41), some (.ref 9), none, some (.int x3), some (.int s0)], [.int s0], 0, 0)) rfl (T_War_bitOf (by omega) hc ?_)
      show sm_W sm_sh X (sm_C sm_sh X sm_P D) me_100 Q (18, [some (.ref 41), some (.ref 9), none, some (.int x3), some (.int s0)], [.int r3, .int s0], 0, 0) (I2, J, sm_rf t d)
      refine sm_W.runL (sm_C_mono D) 2 (G := True) (e := (s0 ||| r3)) (fr' := fun a4 => (20, [some (.ref 41), some (.ref 9), none, some (.int x3), some (.int a4)], [], 0, 0)) (M' := fun _ => (I2, J, sm_rf t d)) rfl h trivial (fun a4 h => ?_)
      exact sm_W.forget (L' := [none, some (.ref 9), none, none, some (.int a4)]) ⟨rfl, ⟨rfl, trivial⟩⟩ (G_War_leftFree_20 hD (by decide) h hQ)
theorem G_War_leftFree {X : Nat × (Nat → Int32)} {t d D : Nat} {Q : sm_Q} {I : sm_MI} {J : sm_MJ} {p0 : Nat} {x2 : Int32} {x3 : Int32} {rz : Int32} {Iz : sm_MI}
    (hD : 4 ≤ D) (hp : (p0 = 21) ∨ (p0 = 41)) (h : F_War_leftFree p0 x2 x3 I = some (rz, Iz)) (hQ : Q (.inl (some (.int rz))) (Iz, J, sm_rf t d))  : sm_W sm_sh X (sm_C sm_sh X sm_P D) me_100 Q (0, [some (.ref p0), some (.ref 9), some (.int x2), some (.int x3), none], [], 0, 0) (I, J, sm_rf t d) := by
  unfold F_War_leftFree at h
  rcases hp with rfl | rfl
  · skip
    refine sm_W.run (sm_C_mono D) 2 (G := True) (fr' := (if decide (¬ x2 = 0) = true then 8 else 2, [some (.ref 21), some (.ref 9), some (.int x2), some (.int x3), none], [], 0, 0)) (M' := (I, J, sm_rf t d)) rfl trivial (sm_W.iteD h (fun hc h => ?_) (fun hc h => ?_))
    · refine sm_W.run (sm_C_mono D) 1 (G := True) (fr' := (9, [some (.ref 21), some (.ref 9), some (.int x2), some (.int x3), none], [.int (0 : Int32)], 0, 0)) (M' := (I, J, sm_rf t d)) rfl trivial ?_
      exact sm_W.forget (L' := [some (.ref 21), some (.ref 9), none, some (.int x3), none]) ⟨rfl, ⟨rfl, ⟨rfl, trivial⟩⟩⟩ (G_War_leftFree_9 hD (by decide) h hQ)
    · refine sm_W.run (sm_C_mono D) 3 (G := True) (fr' := (5, [some (.ref 21), some (.ref 9), some (.int x2), some (.int x3), none], [.int (0 : Int32), .ref 9, .ref 21], 0, 0)) (M' := (I, J, sm_rf t d)) rfl trivial ?_
      obtain ⟨r1, I2, hc, h⟩ := sd_q2_go h
      refine sm_W.cal (sm_C_mono D) (y := 94) (as := [.ref 21, .ref 9, .int (0 : Int32)]) (fr' := (6, [some (.ref 21), some (.ref 9), some (.int x2), some (.int x3), none], [], 0, 0)) rfl (T_War_target (by omega) (by decide) hc ?_)
      show sm_W sm_sh X (sm_C sm_sh X sm_P D) me_100 Q (6, [some (.ref 21), some (.ref 9), some (.int x2), some (.int x3), none], [.int r1], 0, 0) (I2, J, sm_rf t d)
      obtain ⟨r3, hc, h⟩ := sd_q1_go h
      refine sm_W.cal (sm_C_mono D) (y := 96) (as := [.int r1]) (fr' := (7, [some (.ref 21), some (.ref 9), some (.int x2), some (.int x3), none], [], 0, 0)) rfl (T_War_bitOf (by omega) hc ?_)
      show sm_W sm_sh X (sm_C sm_sh X sm_P D) me_100 Q (7, [some (.ref 21), some (.ref 9), some (.int x2), some (.int x3), none], [.int r3], 0, 0) (I2, J, sm_rf t d)
      refine sm_W.run (sm_C_mono D) 1 (G := True) (fr' := (9, [some (.ref 21), some (.ref 9), some (.int x2), some (.int x3), none], [.int r3], 0, 0)) (M' := (I2, J, sm_rf t d)) rfl trivial ?_
      exact sm_W.forget (L' := [some (.ref 21), some (.ref 9), none, some (.int x3), none]) ⟨rfl, ⟨rfl, ⟨rfl, trivial⟩⟩⟩ (G_War_leftFree_9 hD (by decide) h hQ)
  · skip
    refine sm_W.run (sm_C_mono D) 2 (G := True) (fr' := (if decide (¬ x2 = 0) = true then 8 else 2, [some (.ref 41), some (.ref 9), some (.int x2), some (.int x3), none], [], 0, 0)) (M' := (I, J, sm_rf t d)) rfl trivial (sm_W.iteD h (fun hc h => ?_) (fun hc h => ?_))
    · refine sm_W.run (sm_C_mono D) 1 (G := True) (fr' := (9, [some (.ref 41), some (.ref 9), some (.int x2), some (.int x3), none], [.int (0 : Int32)], 0, 0)) (M' := (I, J, sm_rf t d)) rfl trivial ?_
      exact sm_W.forget (L' := [some (.ref 41), some (.ref 9), none, some (.int x3), none]) ⟨rfl, ⟨rfl, ⟨rfl, trivial⟩⟩⟩ (G_War_leftFree_9 hD (by decide) h hQ)
    · refine sm_W.run (sm_C_mono D) 3 (G := True) (fr' := (5, [some (.ref 41), some (.ref 9), some (.int x2), some (.int x3), none], [.int (0 : Int32), .ref 9, .ref 41], 0, 0)) (M' := (I, J, sm_rf t d)) rfl trivial ?_
      obtain ⟨r1, I2, hc, h⟩ := sd_q2_go h
      refine sm_W.cal (sm_C_mono D) (y := 94) (as := [.ref 41, .ref 9, .int (0 : Int32)]) (fr' := (6, [some (.ref 41), some (.ref 9), some (.int x2), some (.int x3), none], [], 0, 0)) rfl (T_War_target (by omega) (by decide) hc ?_)
      show sm_W sm_sh X (sm_C sm_sh X sm_P D) me_100 Q (6, [some (.ref 41), some (.ref 9), some (.int x2), some (.int x3), none], [.int r1], 0, 0) (I2, J, sm_rf t d)
      obtain ⟨r3, hc, h⟩ := sd_q1_go h
      refine sm_W.cal (sm_C_mono D) (y := 96) (as := [.int r1]) (fr' := (7, [some (.ref 41), some (.ref 9), some (.int x2), some (.int x3), none], [], 0, 0)) rfl (T_War_bitOf (by omega) hc ?_)
      show sm_W sm_sh X (sm_C sm_sh X sm_P D) me_100 Q (7, [some (.ref 41), some (.ref 9), some (.int x2), some (.int x3), none], [.int r3], 0, 0) (I2, J, sm_rf t d)
      refine sm_W.run (sm_C_mono D) 1 (G := True) (fr' := (9, [some (.ref 41), some (.ref 9), some (.int x2), some (.int x3), none], [.int r3], 0, 0)) (M' := (I2, J, sm_rf t d)) rfl trivial ?_
      exact sm_W.forget (L' := [some (.ref 41), some (.ref 9), none, some (.int x3), none]) ⟨rfl, ⟨rfl, ⟨rfl, trivial⟩⟩⟩ (G_War_leftFree_9 hD (by decide) h hQ)
theorem T_War_leftFree {X : Nat × (Nat → Int32)} {t d D : Nat} {Q : sm_Q} {I : sm_MI} {J : sm_MJ} {p0 : Nat} {x2 : Int32} {x3 : Int32} {rz : Int32} {Iz : sm_MI}
    (hD : 5 ≤ D) (hp : (p0 = 21) ∨ (p0 = 41)) (h : F_War_leftFree p0 x2 x3 I = some (rz, Iz)) (hQ : Q (.inl (some (.int rz))) (Iz, J, sm_rf t d)) : sm_C sm_sh X sm_P D 100 [.ref p0, .ref 9, .int x2, .int x3] (I, J, sm_rf t d) Q := by
  cases D with
  | zero => omega
  | succ D => exact sm_C.of (me := me_100) (L := [some (.ref p0), some (.ref 9), some (.int x2), some (.int x3), none]) rfl rfl rfl (sm_W.forget (L' := [some (.ref p0), some (.ref 9), some (.int x2), some (.int x3), none]) ⟨rfl, ⟨rfl, ⟨rfl, ⟨rfl, trivial⟩⟩⟩⟩ (G_War_leftFree (by omega) hp h hQ))
-- 101 War_lead
noncomputable def F_War_lead (p0 : Nat) (x1 : Int32) (I : sm_MI) : Option (Int32) :=
  sd_q1 (F_Valley_ofSide p0 (0 : Int32) I) fun r1 =>
  sd_q1 (F_Valley_skillsOf p0 (r1 &&& x1) I) fun r2 =>
  sd_q1 (F_Valley_ofSide p0 (1 : Int32) I) fun r3 =>
  sd_q1 (F_Valley_skillsOf p0 (r3 &&& x1) I) fun r4 =>
  some ((r2 - r4))
theorem G_War_lead {X : Nat × (Nat → Int32)} {t d D : Nat} {Q : sm_Q} {I : sm_MI} {J : sm_MJ} {p0 : Nat} {x1 : Int32} {rz : Int32}
    (hD : 1 ≤ D) (hp : (p0 = 21) ∨ (p0 = 41)) (h : F_War_lead p0 x1 I = some (rz)) (hQ : Q (.inl (some (.int rz))) (I, J, sm_rf t d))  : sm_W sm_sh X (sm_C sm_sh X sm_P D) me_101 Q (0, [some (.ref p0), some (.int x1)], [], 0, 0) (I, J, sm_rf t d) := by
  unfold F_War_lead at h
  rcases hp with rfl | rfl
  · skip
    refine sm_W.run (sm_C_mono D) 3 (G := True) (fr' := (3, [some (.ref 21), some (.int x1)], [.int (0 : Int32), .ref 21, .ref 21], 0, 0)) (M' := (I, J, sm_rf t d)) rfl trivial ?_
    obtain ⟨r1, hc, h⟩ := sd_q1_go h
    refine sm_W.cal (sm_C_mono D) (y := 83) (as := [.ref 21, .int (0 : Int32)]) (fr' := (4, [some (.ref 21), some (.int x1)], [.ref 21], 0, 0)) rfl (T_Valley_ofSide (by omega) (by decide) hc ?_)
    show sm_W sm_sh X (sm_C sm_sh X sm_P D) me_101 Q (4, [some (.ref 21), some (.int x1)], [.int r1, .ref 21], 0, 0) (I, J, sm_rf t d)
    refine sm_W.run (sm_C_mono D) 2 (G := True) (fr' := (6, [some (.ref 21), some (.int x1)], [.int (r1 &&& x1), .ref 21], 0, 0)) (M' := (I, J, sm_rf t d)) rfl trivial ?_
    obtain ⟨r2, hc, h⟩ := sd_q1_go h
    refine sm_W.cal (sm_C_mono D) (y := 86) (as := [.ref 21, .int (r1 &&& x1)]) (fr' := (7, [some (.ref 21), some (.int x1)], [], 0, 0)) rfl (T_Valley_skillsOf (by omega) (by decide) hc ?_)
    show sm_W sm_sh X (sm_C sm_sh X sm_P D) me_101 Q (7, [some (.ref 21), some (.int x1)], [.int r2], 0, 0) (I, J, sm_rf t d)
    refine sm_W.run (sm_C_mono D) 3 (G := True) (fr' := (10, [some (.ref 21), some (.int x1)], [.int (1 : Int32), .ref 21, .ref 21, .int r2], 0, 0)) (M' := (I, J, sm_rf t d)) rfl trivial ?_
    obtain ⟨r3, hc, h⟩ := sd_q1_go h
    refine sm_W.cal (sm_C_mono D) (y := 83) (as := [.ref 21, .int (1 : Int32)]) (fr' := (11, [some (.ref 21), some (.int x1)], [.ref 21, .int r2], 0, 0)) rfl (T_Valley_ofSide (by omega) (by decide) hc ?_)
    show sm_W sm_sh X (sm_C sm_sh X sm_P D) me_101 Q (11, [some (.ref 21), some (.int x1)], [.int r3, .ref 21, .int r2], 0, 0) (I, J, sm_rf t d)
    refine sm_W.run (sm_C_mono D) 2 (G := True) (fr' := (13, [some (.ref 21), some (.int x1)], [.int (r3 &&& x1), .ref 21, .int r2], 0, 0)) (M' := (I, J, sm_rf t d)) rfl trivial ?_
    obtain ⟨r4, hc, h⟩ := sd_q1_go h
    refine sm_W.cal (sm_C_mono D) (y := 86) (as := [.ref 21, .int (r3 &&& x1)]) (fr' := (14, [some (.ref 21), some (.int x1)], [.int r2], 0, 0)) rfl (T_Valley_skillsOf (by omega) (by decide) hc ?_)
    show sm_W sm_sh X (sm_C sm_sh X sm_P D) me_101 Q (14, [some (.ref 21), some (.int x1)], [.int r4, .int r2], 0, 0) (I, J, sm_rf t d)
    refine sm_W.run (sm_C_mono D) 1 (G := True) (fr' := (15, [some (.ref 21), some (.int x1)], [.int (r2 - r4)], 0, 0)) (M' := (I, J, sm_rf t d)) rfl trivial ?_
    cases h
    exact sm_W.ret (sm_C_mono D) rfl hQ
  · skip
    refine sm_W.run (sm_C_mono D) 3 (G := True) (fr' := (3, [some (.ref 41), some (.int x1)], [.int (0 : Int32), .ref 41, .ref 41], 0, 0)) (M' := (I, J, sm_rf t d)) rfl trivial ?_
    obtain ⟨r1, hc, h⟩ := sd_q1_go h
    refine sm_W.cal (sm_C_mono D) (y := 83) (as := [.ref 41, .int (0 : Int32)]) (fr' := (4, [some (.ref 41), some (.int x1)], [.ref 41], 0, 0)) rfl (T_Valley_ofSide (by omega) (by decide) hc ?_)
    show sm_W sm_sh X (sm_C sm_sh X sm_P D) me_101 Q (4, [some (.ref 41), some (.int x1)], [.int r1, .ref 41], 0, 0) (I, J, sm_rf t d)
    refine sm_W.run (sm_C_mono D) 2 (G := True) (fr' := (6, [some (.ref 41), some (.int x1)], [.int (r1 &&& x1), .ref 41], 0, 0)) (M' := (I, J, sm_rf t d)) rfl trivial ?_
    obtain ⟨r2, hc, h⟩ := sd_q1_go h
    refine sm_W.cal (sm_C_mono D) (y := 86) (as := [.ref 41, .int (r1 &&& x1)]) (fr' := (7, [some (.ref 41), some (.int x1)], [], 0, 0)) rfl (T_Valley_skillsOf (by omega) (by decide) hc ?_)
    show sm_W sm_sh X (sm_C sm_sh X sm_P D) me_101 Q (7, [some (.ref 41), some (.int x1)], [.int r2], 0, 0) (I, J, sm_rf t d)
    refine sm_W.run (sm_C_mono D) 3 (G := True) (fr' := (10, [some (.ref 41), some (.int x1)], [.int (1 : Int32), .ref 41, .ref 41, .int r2], 0, 0)) (M' := (I, J, sm_rf t d)) rfl trivial ?_
    obtain ⟨r3, hc, h⟩ := sd_q1_go h
    refine sm_W.cal (sm_C_mono D) (y := 83) (as := [.ref 41, .int (1 : Int32)]) (fr' := (11, [some (.ref 41), some (.int x1)], [.ref 41, .int r2], 0, 0)) rfl (T_Valley_ofSide (by omega) (by decide) hc ?_)
    show sm_W sm_sh X (sm_C sm_sh X sm_P D) me_101 Q (11, [some (.ref 41), some (.int x1)], [.int r3, .ref 41, .int r2], 0, 0) (I, J, sm_rf t d)
    refine sm_W.run (sm_C_mono D) 2 (G := True) (fr' := (13, [some (.ref 41), some (.int x1)], [.int (r3 &&& x1), .ref 41, .int r2], 0, 0)) (M' := (I, J, sm_rf t d)) rfl trivial ?_
    obtain ⟨r4, hc, h⟩ := sd_q1_go h
    refine sm_W.cal (sm_C_mono D) (y := 86) (as := [.ref 41, .int (r3 &&& x1)]) (fr' := (14, [some (.ref 41), some (.int x1)], [.int r2], 0, 0)) rfl (T_Valley_skillsOf (by omega) (by decide) hc ?_)
    show sm_W sm_sh X (sm_C sm_sh X sm_P D) me_101 Q (14, [some (.ref 41), some (.int x1)], [.int r4, .int r2], 0, 0) (I, J, sm_rf t d)
    refine sm_W.run (sm_C_mono D) 1 (G := True) (fr' := (15, [some (.ref 41), some (.int x1)], [.int (r2 - r4)], 0, 0)) (M' := (I, J, sm_rf t d)) rfl trivial ?_
    cases h
    exact sm_W.ret (sm_C_mono D) rfl hQ
theorem T_War_lead {X : Nat × (Nat → Int32)} {t d D : Nat} {Q : sm_Q} {I : sm_MI} {J : sm_MJ} {p0 : Nat} {x1 : Int32} {rz : Int32}
    (hD : 2 ≤ D) (hp : (p0 = 21) ∨ (p0 = 41)) (h : F_War_lead p0 x1 I = some (rz)) (hQ : Q (.inl (some (.int rz))) (I, J, sm_rf t d)) : sm_C sm_sh X sm_P D 101 [.ref p0, .int x1] (I, J, sm_rf t d) Q := by
  cases D with
  | zero => omega
  | succ D => exact sm_C.of (me := me_101) (L := [some (.ref p0), some (.int x1)]) rfl rfl rfl (sm_W.forget (L' := [some (.ref p0), some (.int x1)]) ⟨rfl, ⟨rfl, trivial⟩⟩ (G_War_lead (by omega) hp h hQ))
-- 102 War_bonus
noncomputable def F_War_bonus (p0 : Nat) (x1 : Int32) (x2 : Int32) (x3 : Int32) (I : sm_MI) : Option (Int32) :=
  sd_q1 (F_Valley_singable p0 x1 I) fun r1 =>
  sd_q1 (F_Int_bitCount r1) fun r2 =>
  if ¬ r2 = x2 then
    some ((0 : Int32))
  else
    some (x3)
theorem G_War_bonus {X : Nat × (Nat → Int32)} {t d D : Nat} {Q : sm_Q} {I : sm_MI} {J : sm_MJ} {p0 : Nat} {x1 : Int32} {x2 : Int32} {x3 : Int32} {rz : Int32}
    (hD : 3 ≤ D) (hp : (p0 = 21) ∨ (p0 = 41)) (h : F_War_bonus p0 x1 x2 x3 I = some (rz)) (hQ : Q (.inl (some (.int rz))) (I, J, sm_rf t d))  : sm_W sm_sh X (sm_C sm_sh X sm_P D) me_102 Q (0, [some (.ref p0), some (.int x1), some (.int x2), some (.int x3)], [], 0, 0) (I, J, sm_rf t d) := by
  unfold F_War_bonus at h
  rcases hp with rfl | rfl
  · skip
    refine sm_W.run (sm_C_mono D) 2 (G := True) (fr' := (2, [some (.ref 21), some (.int x1), some (.int x2), some (.int x3)], [.int x1, .ref 21], 0, 0)) (M' := (I, J, sm_rf t d)) rfl trivial ?_
    obtain ⟨r1, hc, h⟩ := sd_q1_go h
    refine sm_W.cal (sm_C_mono D) (y := 89) (as := [.ref 21, .int x1]) (fr' := (3, [some (.ref 21), some (.int x1), some (.int x2), some (.int x3)], [], 0, 0)) rfl (T_Valley_singable (by omega) (by decide) hc ?_)
    show sm_W sm_sh X (sm_C sm_sh X sm_P D) me_102 Q (3, [some (.ref 21), some (.int x1), some (.int x2), some (.int x3)], [.int r1], 0, 0) (I, J, sm_rf t d)
    obtain ⟨r2, hc, h⟩ := sd_q1_go h
    refine sm_W.cal (sm_C_mono D) (y := 268) (as := [.int r1]) (fr' := (4, [some (.ref 21), some (.int x1), some (.int x2), some (.int x3)], [], 0, 0)) rfl (T_Int_bitCount (by omega) hc ?_)
    show sm_W sm_sh X (sm_C sm_sh X sm_P D) me_102 Q (4, [some (.ref 21), some (.int x1), some (.int x2), some (.int x3)], [.int r2], 0, 0) (I, J, sm_rf t d)
    refine sm_W.run (sm_C_mono D) 2 (G := True) (fr' := (if decide (¬ r2 = x2) = true then 8 else 6, [some (.ref 21), some (.int x1), some (.int x2), some (.int x3)], [], 0, 0)) (M' := (I, J, sm_rf t d)) rfl trivial (sm_W.iteD h (fun hc h => ?_) (fun hc h => ?_))
    · refine sm_W.run (sm_C_mono D) 1 (G := True) (fr' := (9, [some (.ref 21), some (.int x1), some (.int x2), some (.int x3)], [.int (0 : Int32)], 0, 0)) (M' := (I, J, sm_rf t d)) rfl trivial ?_
      cases h
      exact sm_W.ret (sm_C_mono D) rfl hQ
    · refine sm_W.run (sm_C_mono D) 2 (G := True) (fr' := (9, [some (.ref 21), some (.int x1), some (.int x2), some (.int x3)], [.int x3], 0, 0)) (M' := (I, J, sm_rf t d)) rfl trivial ?_
      cases h
      exact sm_W.ret (sm_C_mono D) rfl hQ
  · skip
    refine sm_W.run (sm_C_mono D) 2 (G := True) (fr' := (2, [some (.ref 41), some (.int x1), some (.int x2), some (.int x3)], [.int x1, .ref 41], 0, 0)) (M' := (I, J, sm_rf t d)) rfl trivial ?_
    obtain ⟨r1, hc, h⟩ := sd_q1_go h
    refine sm_W.cal (sm_C_mono D) (y := 89) (as := [.ref 41, .int x1]) (fr' := (3, [some (.ref 41), some (.int x1), some (.int x2), some (.int x3)], [], 0, 0)) rfl (T_Valley_singable (by omega) (by decide) hc ?_)
    show sm_W sm_sh X (sm_C sm_sh X sm_P D) me_102 Q (3, [some (.ref 41), some (.int x1), some (.int x2), some (.int x3)], [.int r1], 0, 0) (I, J, sm_rf t d)
    obtain ⟨r2, hc, h⟩ := sd_q1_go h
    refine sm_W.cal (sm_C_mono D) (y := 268) (as := [.int r1]) (fr' := (4, [some (.ref 41), some (.int x1), some (.int x2), some (.int x3)], [], 0, 0)) rfl (T_Int_bitCount (by omega) hc ?_)
    show sm_W sm_sh X (sm_C sm_sh X sm_P D) me_102 Q (4, [some (.ref 41), some (.int x1), some (.int x2), some (.int x3)], [.int r2], 0, 0) (I, J, sm_rf t d)
    refine sm_W.run (sm_C_mono D) 2 (G := True) (fr' := (if decide (¬ r2 = x2) = true then 8 else 6, [some (.ref 41), some (.int x1), some (.int x2), some (.int x3)], [], 0, 0)) (M' := (I, J, sm_rf t d)) rfl trivial (sm_W.iteD h (fun hc h => ?_) (fun hc h => ?_))
    · refine sm_W.run (sm_C_mono D) 1 (G := True) (fr' := (9, [some (.ref 41), some (.int x1), some (.int x2), some (.int x3)], [.int (0 : Int32)], 0, 0)) (M' := (I, J, sm_rf t d)) rfl trivial ?_
      cases h
      exact sm_W.ret (sm_C_mono D) rfl hQ
    · refine sm_W.run (sm_C_mono D) 2 (G := True) (fr' := (9, [some (.ref 41), some (.int x1), some (.int x2), some (.int x3)], [.int x3], 0, 0)) (M' := (I, J, sm_rf t d)) rfl trivial ?_
      cases h
      exact sm_W.ret (sm_C_mono D) rfl hQ
theorem T_War_bonus {X : Nat × (Nat → Int32)} {t d D : Nat} {Q : sm_Q} {I : sm_MI} {J : sm_MJ} {p0 : Nat} {x1 : Int32} {x2 : Int32} {x3 : Int32} {rz : Int32}
    (hD : 4 ≤ D) (hp : (p0 = 21) ∨ (p0 = 41)) (h : F_War_bonus p0 x1 x2 x3 I = some (rz)) (hQ : Q (.inl (some (.int rz))) (I, J, sm_rf t d)) : sm_C sm_sh X sm_P D 102 [.ref p0, .int x1, .int x2, .int x3] (I, J, sm_rf t d) Q := by
  cases D with
  | zero => omega
  | succ D => exact sm_C.of (me := me_102) (L := [some (.ref p0), some (.int x1), some (.int x2), some (.int x3)]) rfl rfl rfl (sm_W.forget (L' := [some (.ref p0), some (.int x1), some (.int x2), some (.int x3)]) ⟨rfl, ⟨rfl, ⟨rfl, ⟨rfl, trivial⟩⟩⟩⟩ (G_War_bonus (by omega) hp h hQ))
-- 99 War_coupleRests
noncomputable def F_War_coupleRests (p0 : Nat) (x2 : Int32) (x3 : Int32) (x4 : Int32) (I : sm_MI) : Option (Int32 × sm_MI) :=
  sd_q2 (F_War_leftFree p0 x2 x3 I) fun r1 I2 =>
  sd_q2 (F_War_leftFree p0 ((1 : Int32) - x2) x3 I2) fun r3 I4 =>
  sd_q2 (F_War_leftFree p0 x2 ((1 : Int32) - x3) I4) fun r5 I6 =>
  sd_q1 (F_Valley_singable p0 (I6 9 0) I6) fun r7 =>
  sd_q1 (F_Int_bitCount r7) fun r8 =>
  sd_q1 (F_War_lead p0 r1 I6) fun r9 =>
  sd_q1 (F_War_bonus p0 r1 r8 x4 I6) fun r10 =>
  sd_q1 (F_War_lead p0 r3 I6) fun r11 =>
  sd_q1 (F_War_bonus p0 r3 r8 x4 I6) fun r12 =>
  if (r9 + r10) < (r11 + r12) then
    some ((0 : Int32), I6)
  else
    sd_q1 (F_War_bonus p0 r5 r8 x4 I6) fun r13 =>
    sd_q1 (F_War_lead p0 r5 I6) fun r14 =>
    if (r10 - r9) < (r13 - r14) then
      some ((0 : Int32), I6)
    else
      some ((1 : Int32), I6)
theorem G_War_coupleRests {X : Nat × (Nat → Int32)} {t d D : Nat} {Q : sm_Q} {I : sm_MI} {J : sm_MJ} {p0 : Nat} {x2 : Int32} {x3 : Int32} {x4 : Int32} {rz : Int32} {Iz : sm_MI}
    (hD : 5 ≤ D) (hp : (p0 = 21) ∨ (p0 = 41)) (h : F_War_coupleRests p0 x2 x3 x4 I = some (rz, Iz)) (hQ : Q (.inl (some (.int rz))) (Iz, J, sm_rf t d))  : sm_W sm_sh X (sm_C sm_sh X sm_P D) me_99 Q (0, [some (.ref p0), some (.ref 9), some (.int x2), some (.int x3), some (.int x4), none, none, none, none, none, none], [], 0, 0) (I, J, sm_rf t d) := by
  unfold F_War_coupleRests at h
  rcases hp with rfl | rfl
  · skip
    refine sm_W.run (sm_C_mono D) 4 (G := True) (fr' := (4, [some (.ref 21), some (.ref 9), some (.int x2), some (.int x3), some (.int x4), none, none, none, none, none, none], [.int x3, .int x2, .ref 9, .ref 21], 0, 0)) (M' := (I, J, sm_rf t d)) rfl trivial ?_
    obtain ⟨r1, I2, hc, h⟩ := sd_q2_go h
    refine sm_W.cal (sm_C_mono D) (y := 100) (as := [.ref 21, .ref 9, .int x2, .int x3]) (fr' := (5, [some (.ref 21), some (.ref 9), some (.int x2), some (.int x3), some (.int x4), none, none, none, none, none, none], [], 0, 0)) rfl (T_War_leftFree (by omega) (by decide) hc ?_)
    show sm_W sm_sh X (sm_C sm_sh X sm_P D) me_99 Q (5, [some (.ref 21), some (.ref 9), some (.int x2), some (.int x3), some (.int x4), none, none, none, none, none, none], [.int r1], 0, 0) (I2, J, sm_rf t d)
    refine sm_W.run (sm_C_mono D) 7 (G := True) (fr' := (12, [some (.ref 21), some (.ref 9), some (.int x2), some (.int x3), some (.int x4), some (.int r1), none, none, none, none, none], [.int x3, .int ((1 : Int32) - x2), .ref 9, .ref 21], 0, 0)) (M' := (I2, J, sm_rf t d)) rfl trivial ?_
    obtain ⟨r3, I4, hc, h⟩ := sd_q2_go h
    refine sm_W.cal (sm_C_mono D) (y := 100) (as := [.ref 21, .ref 9, .int ((1 : Int32) - x2), .int x3]) (fr' := (13, [some (.ref 21), some (.ref 9), some (.int x2), some (.int x3), some (.int x4), some (.int r1), none, none, none, none, none], [], 0, 0)) rfl (T_War_leftFree (by omega) (by decide) hc ?_)
    show sm_W sm_sh X (sm_C sm_sh X sm_P D) me_99 Q (13, [some (.ref 21), some (.ref 9), some (.int x2), some (.int x3), some (.int x4), some (.int r1), none, none, none, none, none], [.int r3], 0, 0) (I4, J, sm_rf t d)
    refine sm_W.run (sm_C_mono D) 7 (G := True) (fr' := (20, [some (.ref 21), some (.ref 9), some (.int x2), some (.int x3), some (.int x4), some (.int r1), some (.int r3), none, none, none, none], [.int ((1 : Int32) - x3), .int x2, .ref 9, .ref 21], 0, 0)) (M' := (I4, J, sm_rf t d)) rfl trivial ?_
    obtain ⟨r5, I6, hc, h⟩ := sd_q2_go h
    refine sm_W.cal (sm_C_mono D) (y := 100) (as := [.ref 21, .ref 9, .int x2, .int ((1 : Int32) - x3)]) (fr' := (21, [some (.ref 21), some (.ref 9), some (.int x2), some (.int x3), some (.int x4), some (.int r1), some (.int r3), none, none, none, none], [], 0, 0)) rfl (T_War_leftFree (by omega) (by decide) hc ?_)
    show sm_W sm_sh X (sm_C sm_sh X sm_P D) me_99 Q (21, [some (.ref 21), some (.ref 9), some (.int x2), some (.int x3), some (.int x4), some (.int r1), some (.int r3), none, none, none, none], [.int r5], 0, 0) (I6, J, sm_rf t d)
    refine sm_W.run (sm_C_mono D) 4 (G := True) (fr' := (25, [some (.ref 21), some (.ref 9), some (.int x2), some (.int x3), some (.int x4), some (.int r1), some (.int r3), some (.int r5), none, none, none], [.int (I6 9 0), .ref 21], 0, 0)) (M' := (I6, J, sm_rf t d)) rfl trivial ?_
    obtain ⟨r7, hc, h⟩ := sd_q1_go h
    refine sm_W.cal (sm_C_mono D) (y := 89) (as := [.ref 21, .int (I6 9 0)]) (fr' := (26, [some (.ref 21), some (.ref 9), some (.int x2), some (.int x3), some (.int x4), some (.int r1), some (.int r3), some (.int r5), none, none, none], [], 0, 0)) rfl (T_Valley_singable (by omega) (by decide) hc ?_)
    show sm_W sm_sh X (sm_C sm_sh X sm_P D) me_99 Q (26, [some (.ref 21), some (.ref 9), some (.int x2), some (.int x3), some (.int x4), some (.int r1), some (.int r3), some (.int r5), none, none, none], [.int r7], 0, 0) (I6, J, sm_rf t d)
    obtain ⟨r8, hc, h⟩ := sd_q1_go h
    refine sm_W.cal (sm_C_mono D) (y := 268) (as := [.int r7]) (fr' := (27, [some (.ref 21), some (.ref 9), some (.int x2), some (.int x3), some (.int x4), some (.int r1), some (.int r3), some (.int r5), none, none, none], [], 0, 0)) rfl (T_Int_bitCount (by omega) hc ?_)
    show sm_W sm_sh X (sm_C sm_sh X sm_P D) me_99 Q (27, [some (.ref 21), some (.ref 9), some (.int x2), some (.int x3), some (.int x4), some (.int r1), some (.int r3), some (.int r5), none, none, none], [.int r8], 0, 0) (I6, J, sm_rf t d)
    refine sm_W.run (sm_C_mono D) 3 (G := True) (fr' := (30, [some (.ref 21), some (.ref 9), some (.int x2), some (.int x3), some (.int x4), some (.int r1), some (.int r3), some (.int r5), some (.int r8), none, none], [.int r1, .ref 21], 0, 0)) (M' := (I6, J, sm_rf t d)) rfl trivial ?_
    obtain ⟨r9, hc, h⟩ := sd_q1_go h
    refine sm_W.cal (sm_C_mono D) (y := 101) (as := [.ref 21, .int r1]) (fr' := (31, [some (.ref 21), some (.ref 9), some (.int x2), some (.int x3), some (.int x4), some (.int r1), some (.int r3), some (.int r5), some (.int r8), none, none], [], 0, 0)) rfl (T_War_lead (by omega) (by decide) hc ?_)
    show sm_W sm_sh X (sm_C sm_sh X sm_P D) me_99 Q (31, [some (.ref 21), some (.ref 9), some (.int x2), some (.int x3), some (.int x4), some (.int r1), some (.int r3), some (.int r5), some (.int r8), none, none], [.int r9], 0, 0) (I6, J, sm_rf t d)
    refine sm_W.run (sm_C_mono D) 5 (G := True) (fr' := (36, [some (.ref 21), some (.ref 9), some (.int x2), some (.int x3), some (.int x4), some (.int r1), some (.int r3), some (.int r5), some (.int r8), some (.int r9), none], [.int x4, .int r8, .int r1, .ref 21], 0, 0)) (M' := (I6, J, sm_rf t d)) rfl trivial ?_
    obtain ⟨r10, hc, h⟩ := sd_q1_go h
    refine sm_W.cal (sm_C_mono D) (y := 102) (as := [.ref 21, .int r1, .int r8, .int x4]) (fr' := (37, [some (.ref 21), some (.ref 9), some (.int x2), some (.int x3), some (.int x4), some (.int r1), some (.int r3), some (.int r5), some (.int r8), some (.int r9), none], [], 0, 0)) rfl (T_War_bonus (by omega) (by decide) hc ?_)
    show sm_W sm_sh X (sm_C sm_sh X sm_P D) me_99 Q (37, [some (.ref 21), some (.ref 9), some (.int x2), some (.int x3), some (.int x4), some (.int r1), some (.int r3), some (.int r5), some (.int r8), some (.int r9), none], [.int r10], 0, 0) (I6, J, sm_rf t d)
    refine sm_W.run (sm_C_mono D) 6 (G := True) (fr' := (43, [some (.ref 21), some (.ref 9), some (.int x2), some (.int x3), some (.int x4), some (.int r1), some (.int r3), some (.int r5), some (.int r8), some (.int r9), some (.int r10)], [.int r3, .ref 21, .int (r9 + r10)], 0, 0)) (M' := (I6, J, sm_rf t d)) rfl trivial ?_
    obtain ⟨r11, hc, h⟩ := sd_q1_go h
    refine sm_W.cal (sm_C_mono D) (y := 101) (as := [.ref 21, .int r3]) (fr' := (44, [some (.ref 21), some (.ref 9), some (.int x2), some (.int x3), some (.int x4), some (.int r1), some (.int r3), some (.int r5), some (.int r8), some (.int r9), some (.int r10)], [.int (r9 + r10)], 0, 0)) rfl (T_War_lead (by omega) (by decide) hc ?_)
    show sm_W sm_sh X (sm_C sm_sh X sm_P D) me_99 Q (44, [some (.ref 21), some (.ref 9), some (.int x2), some (.int x3), some (.int x4), some (.int r1), some (.int r3), some (.int r5), some (.int r8), some (.int r9), some (.int r10)], [.int r11, .int (r9 + r10)], 0, 0) (I6, J, sm_rf t d)
    refine sm_W.run (sm_C_mono D) 4 (G := True) (fr' := (48, [some (.ref 21), some (.ref 9), some (.int x2), some (.int x3), some (.int x4), some (.int r1), some (.int r3), some (.int r5), some (.int r8), some (.int r9), some (.int r10)], [.int x4, .int r8, .int r3, .ref 21, .int r11, .int (r9 + r10)], 0, 0)) (M' := (I6, J, sm_rf t d)) rfl trivial ?_
    obtain ⟨r12, hc, h⟩ := sd_q1_go h
    refine sm_W.cal (sm_C_mono D) (y := 102) (as := [.ref 21, .int r3, .int r8, .int x4]) (fr' := (49, [some (.ref 21), some (.ref 9), some (.int x2), some (.int x3), some (.int x4), some (.int r1), some (.int r3), some (.int r5), some (.int r8), some (.int r9), some (.int r10)], [.int r11, .int (r9 + r10)], 0, 0)) rfl (T_War_bonus (by omega) (by decide) hc ?_)
    show sm_W sm_sh X (sm_C sm_sh X sm_P D) me_99 Q (49, [some (.ref 21), some (.ref 9), some (.int x2), some (.int x3), some (.int x4), some (.int r1), some (.int r3), some (.int r5), some (.int r8), some (.int r9), some (.int r10)], [.int r12, .int r11, .int (r9 + r10)], 0, 0) (I6, J, sm_rf t d)
    refine sm_W.run (sm_C_mono D) 2 (G := True) (fr' := (if decide ((r9 + r10) < (r11 + r12)) = true then 66 else 51, [some (.ref 21), some (.ref 9), some (.int x2), some (.int x3), some (.int x4), some (.int r1), some (.int r3), some (.int r5), some (.int r8), some (.int r9), some (.int r10)], [], 0, 0)) (M' := (I6, J, sm_rf t d)) rfl trivial (sm_W.iteD h (fun hc h => ?_) (fun hc h => ?_))
    · refine sm_W.run (sm_C_mono D) 1 (G := True) (fr' := (67, [some (.ref 21), some (.ref 9), some (.int x2), some (.int x3), some (.int x4), some (.int r1), some (.int r3), some (.int r5), some (.int r8), some (.int r9), some (.int r10)], [.int (0 : Int32)], 0, 0)) (M' := (I6, J, sm_rf t d)) rfl trivial ?_
      cases h
      exact sm_W.ret (sm_C_mono D) rfl hQ
    · refine sm_W.run (sm_C_mono D) 7 (G := True) (fr' := (58, [some (.ref 21), some (.ref 9), some (.int x2), some (.int x3), some (.int x4), some (.int r1), some (.int r3), some (.int r5), some (.int r8), some (.int r9), some (.int r10)], [.int x4, .int r8, .int r5, .ref 21, .int (r10 - r9)], 0, 0)) (M' := (I6, J, sm_rf t d)) rfl trivial ?_
      obtain ⟨r13, hc, h⟩ := sd_q1_go h
      refine sm_W.cal (sm_C_mono D) (y := 102) (as := [.ref 21, .int r5, .int r8, .int x4]) (fr' := (59, [some (.ref 21), some (.ref 9), some (.int x2), some (.int x3), some (.int x4), some (.int r1), some (.int r3), some (.int r5), some (.int r8), some (.int r9), some (.int r10)], [.int (r10 - r9)], 0, 0)) rfl (T_War_bonus (by omega) (by decide) hc ?_)
      show sm_W sm_sh X (sm_C sm_sh X sm_P D) me_99 Q (59, [some (.ref 21), some (.ref 9), some (.int x2), some (.int x3), some (.int x4), some (.int r1), some (.int r3), some (.int r5), some (.int r8), some (.int r9), some (.int r10)], [.int r13, .int (r10 - r9)], 0, 0) (I6, J, sm_rf t d)
      refine sm_W.run (sm_C_mono D) 2 (G := True) (fr' := (61, [some (.ref 21), some (.ref 9), some (.int x2), some (.int x3), some (.int x4), some (.int r1), some (.int r3), some (.int r5), some (.int r8), some (.int r9), some (.int r10)], [.int r5, .ref 21, .int r13, .int (r10 - r9)], 0, 0)) (M' := (I6, J, sm_rf t d)) rfl trivial ?_
      obtain ⟨r14, hc, h⟩ := sd_q1_go h
      refine sm_W.cal (sm_C_mono D) (y := 101) (as := [.ref 21, .int r5]) (fr' := (62, [some (.ref 21), some (.ref 9), some (.int x2), some (.int x3), some (.int x4), some (.int r1), some (.int r3), some (.int r5), some (.int r8), some (.int r9), some (.int r10)], [.int r13, .int (r10 - r9)], 0, 0)) rfl (T_War_lead (by omega) (by decide) hc ?_)
      show sm_W sm_sh X (sm_C sm_sh X sm_P D) me_99 Q (62, [some (.ref 21), some (.ref 9), some (.int x2), some (.int x3), some (.int x4), some (.int r1), some (.int r3), some (.int r5), some (.int r8), some (.int r9), some (.int r10)], [.int r14, .int r13, .int (r10 - r9)], 0, 0) (I6, J, sm_rf t d)
      refine sm_W.run (sm_C_mono D) 2 (G := True) (fr' := (if decide ((r10 - r9) < (r13 - r14)) = true then 66 else 64, [some (.ref 21), some (.ref 9), some (.int x2), some (.int x3), some (.int x4), some (.int r1), some (.int r3), some (.int r5), some (.int r8), some (.int r9), some (.int r10)], [], 0, 0)) (M' := (I6, J, sm_rf t d)) rfl trivial (sm_W.iteD h (fun hc h => ?_) (fun hc h => ?_))
      · refine sm_W.run (sm_C_mono D) 1 (G := True) (fr' := (67, [some (.ref 21), some (.ref 9), some (.int x2), some (.int x3), some (.int x4), some (.int r1), some (.int r3), some (.int r5), some (.int r8), some (.int r9), some (.int r10)], [.int (0 : Int32)], 0, 0)) (M' := (I6, J, sm_rf t d)) rfl trivial ?_
        cases h
        exact sm_W.ret (sm_C_mono D) rfl hQ
      · refine sm_W.run (sm_C_mono D) 2 (G := True) (fr' := (67, [some (.ref 21), some (.ref 9), some (.int x2), some (.int x3), some (.int x4), some (.int r1), some (.int r3), some (.int r5), some (.int r8), some (.int r9), some (.int r10)], [.int (1 : Int32)], 0, 0)) (M' := (I6, J, sm_rf t d)) rfl trivial ?_
        cases h
        exact sm_W.ret (sm_C_mono D) rfl hQ
  · skip
    refine sm_W.run (sm_C_mono D) 4 (G := True) (fr' := (4, [some (.ref 41), some (.ref 9), some (.int x2), some (.int x3), some (.int x4), none, none, none, none, none, none], [.int x3, .int x2, .ref 9, .ref 41], 0, 0)) (M' := (I, J, sm_rf t d)) rfl trivial ?_
    obtain ⟨r1, I2, hc, h⟩ := sd_q2_go h
    refine sm_W.cal (sm_C_mono D) (y := 100) (as := [.ref 41, .ref 9, .int x2, .int x3]) (fr' := (5, [some (.ref 41), some (.ref 9), some (.int x2), some (.int x3), some (.int x4), none, none, none, none, none, none], [], 0, 0)) rfl (T_War_leftFree (by omega) (by decide) hc ?_)
    show sm_W sm_sh X (sm_C sm_sh X sm_P D) me_99 Q (5, [some (.ref 41), some (.ref 9), some (.int x2), some (.int x3), some (.int x4), none, none, none, none, none, none], [.int r1], 0, 0) (I2, J, sm_rf t d)
    refine sm_W.run (sm_C_mono D) 7 (G := True) (fr' := (12, [some (.ref 41), some (.ref 9), some (.int x2), some (.int x3), some (.int x4), some (.int r1), none, none, none, none, none], [.int x3, .int ((1 : Int32) - x2), .ref 9, .ref 41], 0, 0)) (M' := (I2, J, sm_rf t d)) rfl trivial ?_
    obtain ⟨r3, I4, hc, h⟩ := sd_q2_go h
    refine sm_W.cal (sm_C_mono D) (y := 100) (as := [.ref 41, .ref 9, .int ((1 : Int32) - x2), .int x3]) (fr' := (13, [some (.ref 41), some (.ref 9), some (.int x2), some (.int x3), some (.int x4), some (.int r1), none, none, none, none, none], [], 0, 0)) rfl (T_War_leftFree (by omega) (by decide) hc ?_)
    show sm_W sm_sh X (sm_C sm_sh X sm_P D) me_99 Q (13, [some (.ref 41), some (.ref 9), some (.int x2), some (.int x3), some (.int x4), some (.int r1), none, none, none, none, none], [.int r3], 0, 0) (I4, J, sm_rf t d)
    refine sm_W.run (sm_C_mono D) 7 (G := True) (fr' := (20, [some (.ref 41), some (.ref 9), some (.int x2), some (.int x3), some (.int x4), some (.int r1), some (.int r3), none, none, none, none], [.int ((1 : Int32) - x3), .int x2, .ref 9, .ref 41], 0, 0)) (M' := (I4, J, sm_rf t d)) rfl trivial ?_
    obtain ⟨r5, I6, hc, h⟩ := sd_q2_go h
    refine sm_W.cal (sm_C_mono D) (y := 100) (as := [.ref 41, .ref 9, .int x2, .int ((1 : Int32) - x3)]) (fr' := (21, [some (.ref 41), some (.ref 9), some (.int x2), some (.int x3), some (.int x4), some (.int r1), some (.int r3), none, none, none, none], [], 0, 0)) rfl (T_War_leftFree (by omega) (by decide) hc ?_)
    show sm_W sm_sh X (sm_C sm_sh X sm_P D) me_99 Q (21, [some (.ref 41), some (.ref 9), some (.int x2), some (.int x3), some (.int x4), some (.int r1), some (.int r3), none, none, none, none], [.int r5], 0, 0) (I6, J, sm_rf t d)
    refine sm_W.run (sm_C_mono D) 4 (G := True) (fr' := (25, [some (.ref 41), some (.ref 9), some (.int x2), some (.int x3), some (.int x4), some (.int r1), some (.int r3), some (.int r5), none, none, none], [.int (I6 9 0), .ref 41], 0, 0)) (M' := (I6, J, sm_rf t d)) rfl trivial ?_
    obtain ⟨r7, hc, h⟩ := sd_q1_go h
    refine sm_W.cal (sm_C_mono D) (y := 89) (as := [.ref 41, .int (I6 9 0)]) (fr' := (26, [some (.ref 41), some (.ref 9), some (.int x2), some (.int x3), some (.int x4), some (.int r1), some (.int r3), some (.int r5), none, none, none], [], 0, 0)) rfl (T_Valley_singable (by omega) (by decide) hc ?_)
    show sm_W sm_sh X (sm_C sm_sh X sm_P D) me_99 Q (26, [some (.ref 41), some (.ref 9), some (.int x2), some (.int x3), some (.int x4), some (.int r1), some (.int r3), some (.int r5), none, none, none], [.int r7], 0, 0) (I6, J, sm_rf t d)
    obtain ⟨r8, hc, h⟩ := sd_q1_go h
    refine sm_W.cal (sm_C_mono D) (y := 268) (as := [.int r7]) (fr' := (27, [some (.ref 41), some (.ref 9), some (.int x2), some (.int x3), some (.int x4), some (.int r1), some (.int r3), some (.int r5), none, none, none], [], 0, 0)) rfl (T_Int_bitCount (by omega) hc ?_)
    show sm_W sm_sh X (sm_C sm_sh X sm_P D) me_99 Q (27, [some (.ref 41), some (.ref 9), some (.int x2), some (.int x3), some (.int x4), some (.int r1), some (.int r3), some (.int r5), none, none, none], [.int r8], 0, 0) (I6, J, sm_rf t d)
    refine sm_W.run (sm_C_mono D) 3 (G := True) (fr' := (30, [some (.ref 41), some (.ref 9), some (.int x2), some (.int x3), some (.int x4), some (.int r1), some (.int r3), some (.int r5), some (.int r8), none, none], [.int r1, .ref 41], 0, 0)) (M' := (I6, J, sm_rf t d)) rfl trivial ?_
    obtain ⟨r9, hc, h⟩ := sd_q1_go h
    refine sm_W.cal (sm_C_mono D) (y := 101) (as := [.ref 41, .int r1]) (fr' := (31, [some (.ref 41), some (.ref 9), some (.int x2), some (.int x3), some (.int x4), some (.int r1), some (.int r3), some (.int r5), some (.int r8), none, none], [], 0, 0)) rfl (T_War_lead (by omega) (by decide) hc ?_)
    show sm_W sm_sh X (sm_C sm_sh X sm_P D) me_99 Q (31, [some (.ref 41), some (.ref 9), some (.int x2), some (.int x3), some (.int x4), some (.int r1), some (.int r3), some (.int r5), some (.int r8), none, none], [.int r9], 0, 0) (I6, J, sm_rf t d)
    refine sm_W.run (sm_C_mono D) 5 (G := True) (fr' := (36, [some (.ref 41), some (.ref 9), some (.int x2), some (.int x3), some (.int x4), some (.int r1), some (.int r3), some (.int r5), some (.int r8), some (.int r9), none], [.int x4, .int r8, .int r1, .ref 41], 0, 0)) (M' := (I6, J, sm_rf t d)) rfl trivial ?_
    obtain ⟨r10, hc, h⟩ := sd_q1_go h
    refine sm_W.cal (sm_C_mono D) (y := 102) (as := [.ref 41, .int r1, .int r8, .int x4]) (fr' := (37, [some (.ref 41), some (.ref 9), some (.int x2), some (.int x3), some (.int x4), some (.int r1), some (.int r3), some (.int r5), some (.int r8), some (.int r9), none], [], 0, 0)) rfl (T_War_bonus (by omega) (by decide) hc ?_)
    show sm_W sm_sh X (sm_C sm_sh X sm_P D) me_99 Q (37, [some (.ref 41), some (.ref 9), some (.int x2), some (.int x3), some (.int x4), some (.int r1), some (.int r3), some (.int r5), some (.int r8), some (.int r9), none], [.int r10], 0, 0) (I6, J, sm_rf t d)
    refine sm_W.run (sm_C_mono D) 6 (G := True) (fr' := (43, [some (.ref 41), some (.ref 9), some (.int x2), some (.int x3), some (.int x4), some (.int r1), some (.int r3), some (.int r5), some (.int r8), some (.int r9), some (.int r10)], [.int r3, .ref 41, .int (r9 + r10)], 0, 0)) (M' := (I6, J, sm_rf t d)) rfl trivial ?_
    obtain ⟨r11, hc, h⟩ := sd_q1_go h
    refine sm_W.cal (sm_C_mono D) (y := 101) (as := [.ref 41, .int r3]) (fr' := (44, [some (.ref 41), some (.ref 9), some (.int x2), some (.int x3), some (.int x4), some (.int r1), some (.int r3), some (.int r5), some (.int r8), some (.int r9), some (.int r10)], [.int (r9 + r10)], 0, 0)) rfl (T_War_lead (by omega) (by decide) hc ?_)
    show sm_W sm_sh X (sm_C sm_sh X sm_P D) me_99 Q (44, [some (.ref 41), some (.ref 9), some (.int x2), some (.int x3), some (.int x4), some (.int r1), some (.int r3), some (.int r5), some (.int r8), some (.int r9), some (.int r10)], [.int r11, .int (r9 + r10)], 0, 0) (I6, J, sm_rf t d)
    refine sm_W.run (sm_C_mono D) 4 (G := True) (fr' := (48, [some (.ref 41), some (.ref 9), some (.int x2), some (.int x3), some (.int x4), some (.int r1), some (.int r3), some (.int r5), some (.int r8), some (.int r9), some (.int r10)], [.int x4, .int r8, .int r3, .ref 41, .int r11, .int (r9 + r10)], 0, 0)) (M' := (I6, J, sm_rf t d)) rfl trivial ?_
    obtain ⟨r12, hc, h⟩ := sd_q1_go h
    refine sm_W.cal (sm_C_mono D) (y := 102) (as := [.ref 41, .int r3, .int r8, .int x4]) (fr' := (49, [some (.ref 41), some (.ref 9), some (.int x2), some (.int x3), some (.int x4), some (.int r1), some (.int r3), some (.int r5), some (.int r8), some (.int r9), some (.int r10)], [.int r11, .int (r9 + r10)], 0, 0)) rfl (T_War_bonus (by omega) (by decide) hc ?_)
    show sm_W sm_sh X (sm_C sm_sh X sm_P D) me_99 Q (49, [some (.ref 41), some (.ref 9), some (.int x2), some (.int x3), some (.int x4), some (.int r1), some (.int r3), some (.int r5), some (.int r8), some (.int r9), some (.int r10)], [.int r12, .int r11, .int (r9 + r10)], 0, 0) (I6, J, sm_rf t d)
    refine sm_W.run (sm_C_mono D) 2 (G := True) (fr' := (if decide ((r9 + r10) < (r11 + r12)) = true then 66 else 51, [some (.ref 41), some (.ref 9), some (.int x2), some (.int x3), some (.int x4), some (.int r1), some (.int r3), some (.int r5), some (.int r8), some (.int r9), some (.int r10)], [], 0, 0)) (M' := (I6, J, sm_rf t d)) rfl trivial (sm_W.iteD h (fun hc h => ?_) (fun hc h => ?_))
    · refine sm_W.run (sm_C_mono D) 1 (G := True) (fr' := (67, [some (.ref 41), some (.ref 9), some (.int x2), some (.int x3), some (.int x4), some (.int r1), some (.int r3), some (.int r5), some (.int r8), some (.int r9), some (.int r10)], [.int (0 : Int32)], 0, 0)) (M' := (I6, J, sm_rf t d)) rfl trivial ?_
      cases h
      exact sm_W.ret (sm_C_mono D) rfl hQ
    · refine sm_W.run (sm_C_mono D) 7 (G := True) (fr' := (58, [some (.ref 41), some (.ref 9), some (.int x2), some (.int x3), some (.int x4), some (.int r1), some (.int r3), some (.int r5), some (.int r8), some (.int r9), some (.int r10)], [.int x4, .int r8, .int r5, .ref 41, .int (r10 - r9)], 0, 0)) (M' := (I6, J, sm_rf t d)) rfl trivial ?_
      obtain ⟨r13, hc, h⟩ := sd_q1_go h
      refine sm_W.cal (sm_C_mono D) (y := 102) (as := [.ref 41, .int r5, .int r8, .int x4]) (fr' := (59, [some (.ref 41), some (.ref 9), some (.int x2), some (.int x3), some (.int x4), some (.int r1), some (.int r3), some (.int r5), some (.int r8), some (.int r9), some (.int r10)], [.int (r10 - r9)], 0, 0)) rfl (T_War_bonus (by omega) (by decide) hc ?_)
      show sm_W sm_sh X (sm_C sm_sh X sm_P D) me_99 Q (59, [some (.ref 41), some (.ref 9), some (.int x2), some (.int x3), some (.int x4), some (.int r1), some (.int r3), some (.int r5), some (.int r8), some (.int r9), some (.int r10)], [.int r13, .int (r10 - r9)], 0, 0) (I6, J, sm_rf t d)
      refine sm_W.run (sm_C_mono D) 2 (G := True) (fr' := (61, [some (.ref 41), some (.ref 9), some (.int x2), some (.int x3), some (.int x4), some (.int r1), some (.int r3), some (.int r5), some (.int r8), some (.int r9), some (.int r10)], [.int r5, .ref 41, .int r13, .int (r10 - r9)], 0, 0)) (M' := (I6, J, sm_rf t d)) rfl trivial ?_
      obtain ⟨r14, hc, h⟩ := sd_q1_go h
      refine sm_W.cal (sm_C_mono D) (y := 101) (as := [.ref 41, .int r5]) (fr' := (62, [some (.ref 41), some (.ref 9), some (.int x2), some (.int x3), some (.int x4), some (.int r1), some (.int r3), some (.int r5), some (.int r8), some (.int r9), some (.int r10)], [.int r13, .int (r10 - r9)], 0, 0)) rfl (T_War_lead (by omega) (by decide) hc ?_)
      show sm_W sm_sh X (sm_C sm_sh X sm_P D) me_99 Q (62, [some (.ref 41), some (.ref 9), some (.int x2), some (.int x3), some (.int x4), some (.int r1), some (.int r3), some (.int r5), some (.int r8), some (.int r9), some (.int r10)], [.int r14, .int r13, .int (r10 - r9)], 0, 0) (I6, J, sm_rf t d)
      refine sm_W.run (sm_C_mono D) 2 (G := True) (fr' := (if decide ((r10 - r9) < (r13 - r14)) = true then 66 else 64, [some (.ref 41), some (.ref 9), some (.int x2), some (.int x3), some (.int x4), some (.int r1), some (.int r3), some (.int r5), some (.int r8), some (.int r9), some (.int r10)], [], 0, 0)) (M' := (I6, J, sm_rf t d)) rfl trivial (sm_W.iteD h (fun hc h => ?_) (fun hc h => ?_))
      · refine sm_W.run (sm_C_mono D) 1 (G := True) (fr' := (67, [some (.ref 41), some (.ref 9), some (.int x2), some (.int x3), some (.int x4), some (.int r1), some (.int r3), some (.int r5), some (.int r8), some (.int r9), some (.int r10)], [.int (0 : Int32)], 0, 0)) (M' := (I6, J, sm_rf t d)) rfl trivial ?_
        cases h
        exact sm_W.ret (sm_C_mono D) rfl hQ
      · refine sm_W.run (sm_C_mono D) 2 (G := True) (fr' := (67, [some (.ref 41), some (.ref 9), some (.int x2), some (.int x3), some (.int x4), some (.int r1), some (.int r3), some (.int r5), some (.int r8), some (.int r9), some (.int r10)], [.int (1 : Int32)], 0, 0)) (M' := (I6, J, sm_rf t d)) rfl trivial ?_
        cases h
        exact sm_W.ret (sm_C_mono D) rfl hQ
theorem T_War_coupleRests {X : Nat × (Nat → Int32)} {t d D : Nat} {Q : sm_Q} {I : sm_MI} {J : sm_MJ} {p0 : Nat} {x2 : Int32} {x3 : Int32} {x4 : Int32} {rz : Int32} {Iz : sm_MI}
    (hD : 6 ≤ D) (hp : (p0 = 21) ∨ (p0 = 41)) (h : F_War_coupleRests p0 x2 x3 x4 I = some (rz, Iz)) (hQ : Q (.inl (some (.int rz))) (Iz, J, sm_rf t d)) : sm_C sm_sh X sm_P D 99 [.ref p0, .ref 9, .int x2, .int x3, .int x4] (I, J, sm_rf t d) Q := by
  cases D with
  | zero => omega
  | succ D => exact sm_C.of (me := me_99) (L := [some (.ref p0), some (.ref 9), some (.int x2), some (.int x3), some (.int x4), none, none, none, none, none, none]) rfl rfl rfl (sm_W.forget (L' := [some (.ref p0), some (.ref 9), some (.int x2), some (.int x3), some (.int x4), none, none, none, none, none, none]) ⟨rfl, ⟨rfl, ⟨rfl, ⟨rfl, ⟨rfl, trivial⟩⟩⟩⟩⟩ (G_War_coupleRests (by omega) hp h hQ))
-- 103 VM_feed
noncomputable def F_VM_feed (x1 : Int32) (x2 : Int32) (x3 : Int32) (x4 : Int32) (x5 : Int32) (I : sm_MI) : Option (Int32 × sm_MI) :=
  if (I 4 1) ≤ (680 : Int32) then
    sd_q1 (F_Tape_put x1 I) fun I1 =>
    sd_q1 (F_Tape_put x2 I1) fun I2 =>
    sd_q1 (F_Tape_put x3 I2) fun I3 =>
    sd_q1 (F_Tape_put x4 I3) fun I4 =>
    sd_q1 (F_Tape_put x5 I4) fun I5 =>
    some ((I5 4 1), I5)
  else
    some ((-1 : Int32), I)
theorem G_VM_feed {X : Nat × (Nat → Int32)} {t d D : Nat} {Q : sm_Q} {I : sm_MI} {J : sm_MJ} {x1 : Int32} {x2 : Int32} {x3 : Int32} {x4 : Int32} {x5 : Int32} {rz : Int32} {Iz : sm_MI}
    (hD : 1 ≤ D) (h : F_VM_feed x1 x2 x3 x4 x5 I = some (rz, Iz)) (hQ : Q (.inl (some (.int rz))) (Iz, J, sm_rf t d))  : sm_W sm_sh X (sm_C sm_sh X sm_P D) me_103 Q (0, [some (.ref 0), some (.int x1), some (.int x2), some (.int x3), some (.int x4), some (.int x5), none], [], 0, 0) (I, J, sm_rf t d) := by
  unfold F_VM_feed at h
  refine sm_W.run (sm_C_mono D) 8 (G := True) (fr' := (if decide ((I 4 1) ≤ (680 : Int32)) = true then 10 else 8, [some (.ref 0), some (.int x1), some (.int x2), some (.int x3), some (.int x4), some (.int x5), some (.ref 4)], [], 0, 0)) (M' := (I, J, sm_rf t d)) rfl trivial (sm_W.iteD h (fun hc h => ?_) (fun hc h => ?_))
  · refine sm_W.run (sm_C_mono D) 2 (G := True) (fr' := (12, [some (.ref 0), some (.int x1), some (.int x2), some (.int x3), some (.int x4), some (.int x5), some (.ref 4)], [.int x1, .ref 4], 0, 0)) (M' := (I, J, sm_rf t d)) rfl trivial ?_
    obtain ⟨I1, hc, h⟩ := sd_q1_go h
    refine sm_W.cal (sm_C_mono D) (y := 66) (as := [.ref 4, .int x1]) (fr' := (13, [some (.ref 0), some (.int x1), some (.int x2), some (.int x3), some (.int x4), some (.int x5), some (.ref 4)], [], 0, 0)) rfl (T_Tape_put (by omega) hc ?_)
    show sm_W sm_sh X (sm_C sm_sh X sm_P D) me_103 Q (13, [some (.ref 0), some (.int x1), some (.int x2), some (.int x3), some (.int x4), some (.int x5), some (.ref 4)], [], 0, 0) (I1, J, sm_rf t d)
    refine sm_W.run (sm_C_mono D) 2 (G := True) (fr' := (15, [some (.ref 0), some (.int x1), some (.int x2), some (.int x3), some (.int x4), some (.int x5), some (.ref 4)], [.int x2, .ref 4], 0, 0)) (M' := (I1, J, sm_rf t d)) rfl trivial ?_
    obtain ⟨I2, hc, h⟩ := sd_q1_go h
    refine sm_W.cal (sm_C_mono D) (y := 66) (as := [.ref 4, .int x2]) (fr' := (16, [some (.ref 0), some (.int x1), some (.int x2), some (.int x3), some (.int x4), some (.int x5), some (.ref 4)], [], 0, 0)) rfl (T_Tape_put (by omega) hc ?_)
    show sm_W sm_sh X (sm_C sm_sh X sm_P D) me_103 Q (16, [some (.ref 0), some (.int x1), some (.int x2), some (.int x3), some (.int x4), some (.int x5), some (.ref 4)], [], 0, 0) (I2, J, sm_rf t d)
    refine sm_W.run (sm_C_mono D) 2 (G := True) (fr' := (18, [some (.ref 0), some (.int x1), some (.int x2), some (.int x3), some (.int x4), some (.int x5), some (.ref 4)], [.int x3, .ref 4], 0, 0)) (M' := (I2, J, sm_rf t d)) rfl trivial ?_
    obtain ⟨I3, hc, h⟩ := sd_q1_go h
    refine sm_W.cal (sm_C_mono D) (y := 66) (as := [.ref 4, .int x3]) (fr' := (19, [some (.ref 0), some (.int x1), some (.int x2), some (.int x3), some (.int x4), some (.int x5), some (.ref 4)], [], 0, 0)) rfl (T_Tape_put (by omega) hc ?_)
    show sm_W sm_sh X (sm_C sm_sh X sm_P D) me_103 Q (19, [some (.ref 0), some (.int x1), some (.int x2), some (.int x3), some (.int x4), some (.int x5), some (.ref 4)], [], 0, 0) (I3, J, sm_rf t d)
    refine sm_W.run (sm_C_mono D) 2 (G := True) (fr' := (21, [some (.ref 0), some (.int x1), some (.int x2), some (.int x3), some (.int x4), some (.int x5), some (.ref 4)], [.int x4, .ref 4], 0, 0)) (M' := (I3, J, sm_rf t d)) rfl trivial ?_
    obtain ⟨I4, hc, h⟩ := sd_q1_go h
    refine sm_W.cal (sm_C_mono D) (y := 66) (as := [.ref 4, .int x4]) (fr' := (22, [some (.ref 0), some (.int x1), some (.int x2), some (.int x3), some (.int x4), some (.int x5), some (.ref 4)], [], 0, 0)) rfl (T_Tape_put (by omega) hc ?_)
    show sm_W sm_sh X (sm_C sm_sh X sm_P D) me_103 Q (22, [some (.ref 0), some (.int x1), some (.int x2), some (.int x3), some (.int x4), some (.int x5), some (.ref 4)], [], 0, 0) (I4, J, sm_rf t d)
    refine sm_W.run (sm_C_mono D) 2 (G := True) (fr' := (24, [some (.ref 0), some (.int x1), some (.int x2), some (.int x3), some (.int x4), some (.int x5), some (.ref 4)], [.int x5, .ref 4], 0, 0)) (M' := (I4, J, sm_rf t d)) rfl trivial ?_
    obtain ⟨I5, hc, h⟩ := sd_q1_go h
    refine sm_W.cal (sm_C_mono D) (y := 66) (as := [.ref 4, .int x5]) (fr' := (25, [some (.ref 0), some (.int x1), some (.int x2), some (.int x3), some (.int x4), some (.int x5), some (.ref 4)], [], 0, 0)) rfl (T_Tape_put (by omega) hc ?_)
    show sm_W sm_sh X (sm_C sm_sh X sm_P D) me_103 Q (25, [some (.ref 0), some (.int x1), some (.int x2), some (.int x3), some (.int x4), some (.int x5), some (.ref 4)], [], 0, 0) (I5, J, sm_rf t d)
    refine sm_W.run (sm_C_mono D) 2 (G := True) (fr' := (27, [some (.ref 0), some (.int x1), some (.int x2), some (.int x3), some (.int x4), some (.int x5), some (.ref 4)], [.int (I5 4 1)], 0, 0)) (M' := (I5, J, sm_rf t d)) rfl trivial ?_
    cases h
    exact sm_W.ret (sm_C_mono D) rfl hQ
  · refine sm_W.run (sm_C_mono D) 1 (G := True) (fr' := (9, [some (.ref 0), some (.int x1), some (.int x2), some (.int x3), some (.int x4), some (.int x5), some (.ref 4)], [.int (-1 : Int32)], 0, 0)) (M' := (I, J, sm_rf t d)) rfl trivial ?_
    cases h
    exact sm_W.ret (sm_C_mono D) rfl hQ
theorem T_VM_feed {X : Nat × (Nat → Int32)} {t d D : Nat} {Q : sm_Q} {I : sm_MI} {J : sm_MJ} {x1 : Int32} {x2 : Int32} {x3 : Int32} {x4 : Int32} {x5 : Int32} {rz : Int32} {Iz : sm_MI}
    (hD : 2 ≤ D) (h : F_VM_feed x1 x2 x3 x4 x5 I = some (rz, Iz)) (hQ : Q (.inl (some (.int rz))) (Iz, J, sm_rf t d)) : sm_C sm_sh X sm_P D 103 [.ref 0, .int x1, .int x2, .int x3, .int x4, .int x5] (I, J, sm_rf t d) Q := by
  cases D with
  | zero => omega
  | succ D => exact sm_C.of (me := me_103) (L := [some (.ref 0), some (.int x1), some (.int x2), some (.int x3), some (.int x4), some (.int x5), none]) rfl rfl rfl (sm_W.forget (L' := [some (.ref 0), some (.int x1), some (.int x2), some (.int x3), some (.int x4), some (.int x5), none]) ⟨rfl, ⟨rfl, ⟨rfl, ⟨rfl, ⟨rfl, ⟨rfl, trivial⟩⟩⟩⟩⟩⟩ (G_VM_feed (by omega) h hQ))
-- 105 VM_fault
noncomputable def F_VM_fault (I : sm_MI) : Option (Int32) :=
  some ((I 0 8))
theorem G_VM_fault {X : Nat × (Nat → Int32)} {t d D : Nat} {Q : sm_Q} {I : sm_MI} {J : sm_MJ} {rz : Int32}
    (hD : 0 ≤ D) (h : F_VM_fault I = some (rz)) (hQ : Q (.inl (some (.int rz))) (I, J, sm_rf t d))  : sm_W sm_sh X (sm_C sm_sh X sm_P D) me_105 Q (0, [some (.ref 0)], [], 0, 0) (I, J, sm_rf t d) := by
  unfold F_VM_fault at h
  refine sm_W.run (sm_C_mono D) 2 (G := True) (fr' := (2, [some (.ref 0)], [.int (I 0 8)], 0, 0)) (M' := (I, J, sm_rf t d)) rfl trivial ?_
  cases h
  exact sm_W.ret (sm_C_mono D) rfl hQ
theorem T_VM_fault {X : Nat × (Nat → Int32)} {t d D : Nat} {Q : sm_Q} {I : sm_MI} {J : sm_MJ} {rz : Int32}
    (hD : 1 ≤ D) (h : F_VM_fault I = some (rz)) (hQ : Q (.inl (some (.int rz))) (I, J, sm_rf t d)) : sm_C sm_sh X sm_P D 105 [.ref 0] (I, J, sm_rf t d) Q := by
  cases D with
  | zero => omega
  | succ D => exact sm_C.of (me := me_105) (L := [some (.ref 0)]) rfl rfl rfl (sm_W.forget (L' := [some (.ref 0)]) ⟨rfl, trivial⟩ (G_VM_fault (by omega) h hQ))
-- 106 VM_count
noncomputable def F_VM_count (t : Nat) (x1 : Int32) (I : sm_MI) : Option ((Int32 ⊕ Nat)) :=
  if x1 = (0 : Int32) then
    some (.inl (I t 0))
  else if x1 = (1 : Int32) then
    some (.inl (I t 1))
  else if x1 = (2 : Int32) then
    some (.inl (I t 2))
  else if x1 = (3 : Int32) then
    some (.inl (I 9 3))
  else if x1 = (4 : Int32) then
    some (.inl (I 9 4))
  else if x1 = (5 : Int32) then
    some (.inl (I 9 0))
  else if x1 = (6 : Int32) then
    some (.inl (I 9 1))
  else if x1 = (7 : Int32) then
    some (.inl (I 9 2))
  else if x1 = (8 : Int32) then
    sd_q1 (F_Valley_singable t (I 9 0) I) fun r1 =>
    some (.inl r1)
  else if x1 = (9 : Int32) then
    some (.inl (I 8 2))
  else if x1 = (10 : Int32) then
    some (.inl (I 8 6))
  else if x1 = (11 : Int32) then
    some (.inl (I 4 1))
  else if x1 = (12 : Int32) then
    sd_gu (sm_in (0 : Int32) 3 = true) <|
    some (.inl (I 1 0))
  else if x1 = (13 : Int32) then
    sd_gu (sm_in (1 : Int32) 3 = true) <|
    some (.inl (I 1 1))
  else if x1 = (14 : Int32) then
    sd_gu (sm_in (2 : Int32) 3 = true) <|
    some (.inl (I 1 2))
  else 
    some (.inr 1)
theorem G_VM_count {X : Nat × (Nat → Int32)} {t d D : Nat} {Q : sm_Q} {I : sm_MI} {J : sm_MJ} {x1 : Int32} {rz : (Int32 ⊕ Nat)}
    (hD : 3 ≤ D) (ht : t = 21 ∨ t = 41) (h : F_VM_count t x1 I = some (rz)) (hQ1 : ∀ v, rz = .inl v → Q (.inl (some (.int v))) (I, J, sm_rf t d)) (hQ2 : ∀ E, rz = .inr E → Q (.inr E) (I, J, sm_rf t d))  : sm_W sm_sh X (sm_C sm_sh X sm_P D) me_106 Q (0, [some (.ref 0), some (.int x1), none], [], 0, 0) (I, J, sm_rf t d) := by
  unfold F_VM_count at h
  rcases ht with rfl | rfl
  · skip
    refine sm_W.run (sm_C_mono D) 6 (G := True) (fr' := (sm_sw (Int32.toInt x1) (0) [6, 10, 14, 18, 21, 24, 27, 30, 33, 39, 43, 47, 52, 57, 62] 67, [some (.ref 0), some (.int x1), some (.ref 9)], [], 0, 0)) (M' := (I, J, sm_rf 21 d)) rfl trivial ?_
    rw [sd_sw_eq]
    refine sm_W.swS (c := (0 : Int32)) (by decide) h (fun h => ?_) (fun h => ?_)
    · refine sm_W.run (sm_C_mono D) 3 (G := True) (fr' := (9, [some (.ref 0), some (.int x1), some (.ref 9)], [.int (I 21 0)], 0, 0)) (M' := (I, J, sm_rf 21 d)) rfl trivial ?_
      cases h
      exact sm_W.ret (sm_C_mono D) rfl (hQ1 _ rfl)
    refine sm_W.swS (c := (1 : Int32)) (by decide) h (fun h => ?_) (fun h => ?_)
    · refine sm_W.run (sm_C_mono D) 3 (G := True) (fr' := (13, [some (.ref 0), some (.int x1), some (.ref 9)], [.int (I 21 1)], 0, 0)) (M' := (I, J, sm_rf 21 d)) rfl trivial ?_
      cases h
      exact sm_W.ret (sm_C_mono D) rfl (hQ1 _ rfl)
    refine sm_W.swS (c := (2 : Int32)) (by decide) h (fun h => ?_) (fun h => ?_)
    · refine sm_W.run (sm_C_mono D) 3 (G := True) (fr' := (17, [some (.ref 0), some (.int x1), some (.ref 9)], [.int (I 21 2)], 0, 0)) (M' := (I, J, sm_rf 21 d)) rfl trivial ?_
      cases h
      exact sm_W.ret (sm_C_mono D) rfl (hQ1 _ rfl)
    refine sm_W.swS (c := (3 : Int32)) (by decide) h (fun h => ?_) (fun h => ?_)
    · refine sm_W.run (sm_C_mono D) 2 (G := True) (fr' := (20, [some (.ref 0), some (.int x1), some (.ref 9)], [.int (I 9 3)], 0, 0)) (M' := (I, J, sm_rf 21 d)) rfl trivial ?_
      cases h
      exact sm_W.ret (sm_C_mono D) rfl (hQ1 _ rfl)
    refine sm_W.swS (c := (4 : Int32)) (by decide) h (fun h => ?_) (fun h => ?_)
    · refine sm_W.run (sm_C_mono D) 2 (G := True) (fr' := (23, [some (.ref 0), some (.int x1), some (.ref 9)], [.int (I 9 4)], 0, 0)) (M' := (I, J, sm_rf 21 d)) rfl trivial ?_
      cases h
      exact sm_W.ret (sm_C_mono D) rfl (hQ1 _ rfl)
    refine sm_W.swS (c := (5 : Int32)) (by decide) h (fun h => ?_) (fun h => ?_)
    · refine sm_W.run (sm_C_mono D) 2 (G := True) (fr' := (26, [some (.ref 0), some (.int x1), some (.ref 9)], [.int (I 9 0)], 0, 0)) (M' := (I, J, sm_rf 21 d)) rfl trivial ?_
      cases h
      exact sm_W.ret (sm_C_mono D) rfl (hQ1 _ rfl)
    refine sm_W.swS (c := (6 : Int32)) (by decide) h (fun h => ?_) (fun h => ?_)
    · refine sm_W.run (sm_C_mono D) 2 (G := True) (fr' := (29, [some (.ref 0), some (.int x1), some (.ref 9)], [.int (I 9 1)], 0, 0)) (M' := (I, J, sm_rf 21 d)) rfl trivial ?_
      cases h
      exact sm_W.ret (sm_C_mono D) rfl (hQ1 _ rfl)
    refine sm_W.swS (c := (7 : Int32)) (by decide) h (fun h => ?_) (fun h => ?_)
    · refine sm_W.run (sm_C_mono D) 2 (G := True) (fr' := (32, [some (.ref 0), some (.int x1), some (.ref 9)], [.int (I 9 2)], 0, 0)) (M' := (I, J, sm_rf 21 d)) rfl trivial ?_
      cases h
      exact sm_W.ret (sm_C_mono D) rfl (hQ1 _ rfl)
    refine sm_W.swS (c := (8 : Int32)) (by decide) h (fun h => ?_) (fun h => ?_)
    · refine sm_W.run (sm_C_mono D) 4 (G := True) (fr' := (37, [some (.ref 0), some (.int x1), some (.ref 9)], [.int (I 9 0), .ref 21], 0, 0)) (M' := (I, J, sm_rf 21 d)) rfl trivial ?_
      obtain ⟨r1, hc, h⟩ := sd_q1_go h
      refine sm_W.cal (sm_C_mono D) (y := 89) (as := [.ref 21, .int (I 9 0)]) (fr' := (38, [some (.ref 0), some (.int x1), some (.ref 9)], [], 0, 0)) rfl (T_Valley_singable (by omega) (by decide) hc ?_)
      show sm_W sm_sh X (sm_C sm_sh X sm_P D) me_106 Q (38, [some (.ref 0), some (.int x1), some (.ref 9)], [.int r1], 0, 0) (I, J, sm_rf 21 d)
      cases h
      exact sm_W.ret (sm_C_mono D) rfl (hQ1 _ rfl)
    refine sm_W.swS (c := (9 : Int32)) (by decide) h (fun h => ?_) (fun h => ?_)
    · refine sm_W.run (sm_C_mono D) 3 (G := True) (fr' := (42, [some (.ref 0), some (.int x1), some (.ref 9)], [.int (I 8 2)], 0, 0)) (M' := (I, J, sm_rf 21 d)) rfl trivial ?_
      cases h
      exact sm_W.ret (sm_C_mono D) rfl (hQ1 _ rfl)
    refine sm_W.swS (c := (10 : Int32)) (by decide) h (fun h => ?_) (fun h => ?_)
    · refine sm_W.run (sm_C_mono D) 3 (G := True) (fr' := (46, [some (.ref 0), some (.int x1), some (.ref 9)], [.int (I 8 6)], 0, 0)) (M' := (I, J, sm_rf 21 d)) rfl trivial ?_
      cases h
      exact sm_W.ret (sm_C_mono D) rfl (hQ1 _ rfl)
    refine sm_W.swS (c := (11 : Int32)) (by decide) h (fun h => ?_) (fun h => ?_)
    · refine sm_W.run (sm_C_mono D) 4 (G := True) (fr' := (51, [some (.ref 0), some (.int x1), some (.ref 9)], [.int (I 4 1)], 0, 0)) (M' := (I, J, sm_rf 21 d)) rfl trivial ?_
      cases h
      exact sm_W.ret (sm_C_mono D) rfl (hQ1 _ rfl)
    refine sm_W.swS (c := (12 : Int32)) (by decide) h (fun h => ?_) (fun h => ?_)
    · obtain ⟨g2, h⟩ := sd_gu_go h
      refine sm_W.run (sm_C_mono D) 4 (G := sm_in (0 : Int32) 3 = true ∧ True) (fr' := (56, [some (.ref 0), some (.int x1), some (.ref 9)], [.int (I 1 0)], 0, 0)) (M' := (I, J, sm_rf 21 d)) rfl ⟨g2, trivial⟩ ?_
      cases h
      exact sm_W.ret (sm_C_mono D) rfl (hQ1 _ rfl)
    refine sm_W.swS (c := (13 : Int32)) (by decide) h (fun h => ?_) (fun h => ?_)
    · obtain ⟨g3, h⟩ := sd_gu_go h
      refine sm_W.run (sm_C_mono D) 4 (G := sm_in (1 : Int32) 3 = true ∧ True) (fr' := (61, [some (.ref 0), some (.int x1), some (.ref 9)], [.int (I 1 1)], 0, 0)) (M' := (I, J, sm_rf 21 d)) rfl ⟨g3, trivial⟩ ?_
      cases h
      exact sm_W.ret (sm_C_mono D) rfl (hQ1 _ rfl)
    refine sm_W.swS (c := (14 : Int32)) (by decide) h (fun h => ?_) (fun h => ?_)
    · obtain ⟨g4, h⟩ := sd_gu_go h
      refine sm_W.run (sm_C_mono D) 4 (G := sm_in (2 : Int32) 3 = true ∧ True) (fr' := (66, [some (.ref 0), some (.int x1), some (.ref 9)], [.int (I 1 2)], 0, 0)) (M' := (I, J, sm_rf 21 d)) rfl ⟨g4, trivial⟩ ?_
      cases h
      exact sm_W.ret (sm_C_mono D) rfl (hQ1 _ rfl)
    cases h
    exact sm_W.thr (sm_C_mono D) rfl (hQ2 _ rfl)
  · skip
    refine sm_W.run (sm_C_mono D) 6 (G := True) (fr' := (sm_sw (Int32.toInt x1) (0) [6, 10, 14, 18, 21, 24, 27, 30, 33, 39, 43, 47, 52, 57, 62] 67, [some (.ref 0), some (.int x1), some (.ref 9)], [], 0, 0)) (M' := (I, J, sm_rf 41 d)) rfl trivial ?_
    rw [sd_sw_eq]
    refine sm_W.swS (c := (0 : Int32)) (by decide) h (fun h => ?_) (fun h => ?_)
    · refine sm_W.run (sm_C_mono D) 3 (G := True) (fr' := (9, [some (.ref 0), some (.int x1), some (.ref 9)], [.int (I 41 0)], 0, 0)) (M' := (I, J, sm_rf 41 d)) rfl trivial ?_
      cases h
      exact sm_W.ret (sm_C_mono D) rfl (hQ1 _ rfl)
    refine sm_W.swS (c := (1 : Int32)) (by decide) h (fun h => ?_) (fun h => ?_)
    · refine sm_W.run (sm_C_mono D) 3 (G := True) (fr' := (13, [some (.ref 0), some (.int x1), some (.ref 9)], [.int (I 41 1)], 0, 0)) (M' := (I, J, sm_rf 41 d)) rfl trivial ?_
      cases h
      exact sm_W.ret (sm_C_mono D) rfl (hQ1 _ rfl)
    refine sm_W.swS (c := (2 : Int32)) (by decide) h (fun h => ?_) (fun h => ?_)
    · refine sm_W.run (sm_C_mono D) 3 (G := True) (fr' := (17, [some (.ref 0), some (.int x1), some (.ref 9)], [.int (I 41 2)], 0, 0)) (M' := (I, J, sm_rf 41 d)) rfl trivial ?_
      cases h
      exact sm_W.ret (sm_C_mono D) rfl (hQ1 _ rfl)
    refine sm_W.swS (c := (3 : Int32)) (by decide) h (fun h => ?_) (fun h => ?_)
    · refine sm_W.run (sm_C_mono D) 2 (G := True) (fr' := (20, [some (.ref 0), some (.int x1), some (.ref 9)], [.int (I 9 3)], 0, 0)) (M' := (I, J, sm_rf 41 d)) rfl trivial ?_
      cases h
      exact sm_W.ret (sm_C_mono D) rfl (hQ1 _ rfl)
    refine sm_W.swS (c := (4 : Int32)) (by decide) h (fun h => ?_) (fun h => ?_)
    · refine sm_W.run (sm_C_mono D) 2 (G := True) (fr' := (23, [some (.ref 0), some (.int x1), some (.ref 9)], [.int (I 9 4)], 0, 0)) (M' := (I, J, sm_rf 41 d)) rfl trivial ?_
      cases h
      exact sm_W.ret (sm_C_mono D) rfl (hQ1 _ rfl)
    refine sm_W.swS (c := (5 : Int32)) (by decide) h (fun h => ?_) (fun h => ?_)
    · refine sm_W.run (sm_C_mono D) 2 (G := True) (fr' := (26, [some (.ref 0), some (.int x1), some (.ref 9)], [.int (I 9 0)], 0, 0)) (M' := (I, J, sm_rf 41 d)) rfl trivial ?_
      cases h
      exact sm_W.ret (sm_C_mono D) rfl (hQ1 _ rfl)
    refine sm_W.swS (c := (6 : Int32)) (by decide) h (fun h => ?_) (fun h => ?_)
    · refine sm_W.run (sm_C_mono D) 2 (G := True) (fr' := (29, [some (.ref 0), some (.int x1), some (.ref 9)], [.int (I 9 1)], 0, 0)) (M' := (I, J, sm_rf 41 d)) rfl trivial ?_
      cases h
      exact sm_W.ret (sm_C_mono D) rfl (hQ1 _ rfl)
    refine sm_W.swS (c := (7 : Int32)) (by decide) h (fun h => ?_) (fun h => ?_)
    · refine sm_W.run (sm_C_mono D) 2 (G := True) (fr' := (32, [some (.ref 0), some (.int x1), some (.ref 9)], [.int (I 9 2)], 0, 0)) (M' := (I, J, sm_rf 41 d)) rfl trivial ?_
      cases h
      exact sm_W.ret (sm_C_mono D) rfl (hQ1 _ rfl)
    refine sm_W.swS (c := (8 : Int32)) (by decide) h (fun h => ?_) (fun h => ?_)
    · refine sm_W.run (sm_C_mono D) 4 (G := True) (fr' := (37, [some (.ref 0), some (.int x1), some (.ref 9)], [.int (I 9 0), .ref 41], 0, 0)) (M' := (I, J, sm_rf 41 d)) rfl trivial ?_
      obtain ⟨r1, hc, h⟩ := sd_q1_go h
      refine sm_W.cal (sm_C_mono D) (y := 89) (as := [.ref 41, .int (I 9 0)]) (fr' := (38, [some (.ref 0), some (.int x1), some (.ref 9)], [], 0, 0)) rfl (T_Valley_singable (by omega) (by decide) hc ?_)
      show sm_W sm_sh X (sm_C sm_sh X sm_P D) me_106 Q (38, [some (.ref 0), some (.int x1), some (.ref 9)], [.int r1], 0, 0) (I, J, sm_rf 41 d)
      cases h
      exact sm_W.ret (sm_C_mono D) rfl (hQ1 _ rfl)
    refine sm_W.swS (c := (9 : Int32)) (by decide) h (fun h => ?_) (fun h => ?_)
    · refine sm_W.run (sm_C_mono D) 3 (G := True) (fr' := (42, [some (.ref 0), some (.int x1), some (.ref 9)], [.int (I 8 2)], 0, 0)) (M' := (I, J, sm_rf 41 d)) rfl trivial ?_
      cases h
      exact sm_W.ret (sm_C_mono D) rfl (hQ1 _ rfl)
    refine sm_W.swS (c := (10 : Int32)) (by decide) h (fun h => ?_) (fun h => ?_)
    · refine sm_W.run (sm_C_mono D) 3 (G := True) (fr' := (46, [some (.ref 0), some (.int x1), some (.ref 9)], [.int (I 8 6)], 0, 0)) (M' := (I, J, sm_rf 41 d)) rfl trivial ?_
      cases h
      exact sm_W.ret (sm_C_mono D) rfl (hQ1 _ rfl)
    refine sm_W.swS (c := (11 : Int32)) (by decide) h (fun h => ?_) (fun h => ?_)
    · refine sm_W.run (sm_C_mono D) 4 (G := True) (fr' := (51, [some (.ref 0), some (.int x1), some (.ref 9)], [.int (I 4 1)], 0, 0)) (M' := (I, J, sm_rf 41 d)) rfl trivial ?_
      cases h
      exact sm_W.ret (sm_C_mono D) rfl (hQ1 _ rfl)
    refine sm_W.swS (c := (12 : Int32)) (by decide) h (fun h => ?_) (fun h => ?_)
    · obtain ⟨g2, h⟩ := sd_gu_go h
      refine sm_W.run (sm_C_mono D) 4 (G := sm_in (0 : Int32) 3 = true ∧ True) (fr' := (56, [some (.ref 0), some (.int x1), some (.ref 9)], [.int (I 1 0)], 0, 0)) (M' := (I, J, sm_rf 41 d)) rfl ⟨g2, trivial⟩ ?_
      cases h
      exact sm_W.ret (sm_C_mono D) rfl (hQ1 _ rfl)
    refine sm_W.swS (c := (13 : Int32)) (by decide) h (fun h => ?_) (fun h => ?_)
    · obtain ⟨g3, h⟩ := sd_gu_go h
      refine sm_W.run (sm_C_mono D) 4 (G := sm_in (1 : Int32) 3 = true ∧ True) (fr' := (61, [some (.ref 0), some (.int x1), some (.ref 9)], [.int (I 1 1)], 0, 0)) (M' := (I, J, sm_rf 41 d)) rfl ⟨g3, trivial⟩ ?_
      cases h
      exact sm_W.ret (sm_C_mono D) rfl (hQ1 _ rfl)
    refine sm_W.swS (c := (14 : Int32)) (by decide) h (fun h => ?_) (fun h => ?_)
    · obtain ⟨g4, h⟩ := sd_gu_go h
      refine sm_W.run (sm_C_mono D) 4 (G := sm_in (2 : Int32) 3 = true ∧ True) (fr' := (66, [some (.ref 0), some (.int x1), some (.ref 9)], [.int (I 1 2)], 0, 0)) (M' := (I, J, sm_rf 41 d)) rfl ⟨g4, trivial⟩ ?_
      cases h
      exact sm_W.ret (sm_C_mono D) rfl (hQ1 _ rfl)
    cases h
    exact sm_W.thr (sm_C_mono D) rfl (hQ2 _ rfl)
theorem T_VM_count {X : Nat × (Nat → Int32)} {t d D : Nat} {Q : sm_Q} {I : sm_MI} {J : sm_MJ} {x1 : Int32} {rz : (Int32 ⊕ Nat)}
    (hD : 4 ≤ D) (ht : t = 21 ∨ t = 41) (h : F_VM_count t x1 I = some (rz)) (hQ1 : ∀ v, rz = .inl v → Q (.inl (some (.int v))) (I, J, sm_rf t d)) (hQ2 : ∀ E, rz = .inr E → Q (.inr E) (I, J, sm_rf t d)) : sm_C sm_sh X sm_P D 106 [.ref 0, .int x1] (I, J, sm_rf t d) Q := by
  cases D with
  | zero => omega
  | succ D => exact sm_C.of (me := me_106) (L := [some (.ref 0), some (.int x1), none]) rfl rfl rfl (sm_W.forget (L' := [some (.ref 0), some (.int x1), none]) ⟨rfl, ⟨rfl, trivial⟩⟩ (G_VM_count (by omega) ht h hQ1 hQ2))
-- 151 VM_checkSinger
noncomputable def F_VM_checkSinger (t : Nat) (x1 : Int32) (I : sm_MI) : Option ((Unit ⊕ Nat)) :=
  if x1 < 0 then
    some (.inr 1)
  else
    if (I t 0) ≤ x1 then
      some (.inr 1)
    else
      if x1 < (14 : Int32) then
        some (.inl ())
      else
        some (.inr 1)
theorem G_VM_checkSinger {X : Nat × (Nat → Int32)} {t d D : Nat} {Q : sm_Q} {I : sm_MI} {J : sm_MJ} {x1 : Int32} {rz : (Unit ⊕ Nat)}
    (hD : 0 ≤ D) (ht : t = 21 ∨ t = 41) (h : F_VM_checkSinger t x1 I = some (rz)) (hQ1 : ∀ v, rz = .inl v → Q (.inl none) (I, J, sm_rf t d)) (hQ2 : ∀ E, rz = .inr E → Q (.inr E) (I, J, sm_rf t d))  : sm_W sm_sh X (sm_C sm_sh X sm_P D) me_151 Q (0, [some (.ref 0), some (.int x1)], [], 0, 0) (I, J, sm_rf t d) := by
  unfold F_VM_checkSinger at h
  rcases ht with rfl | rfl
  · skip
    refine sm_W.run (sm_C_mono D) 2 (G := True) (fr' := (if decide (x1 < 0) = true then 10 else 2, [some (.ref 0), some (.int x1)], [], 0, 0)) (M' := (I, J, sm_rf 21 d)) rfl trivial (sm_W.iteD h (fun hc h => ?_) (fun hc h => ?_))
    · cases h
      exact sm_W.thr (sm_C_mono D) rfl (hQ2 _ rfl)
    · refine sm_W.run (sm_C_mono D) 5 (G := True) (fr' := (if decide ((I 21 0) ≤ x1) = true then 10 else 7, [some (.ref 0), some (.int x1)], [], 0, 0)) (M' := (I, J, sm_rf 21 d)) rfl trivial (sm_W.iteD h (fun hc h => ?_) (fun hc h => ?_))
      · cases h
        exact sm_W.thr (sm_C_mono D) rfl (hQ2 _ rfl)
      · refine sm_W.run (sm_C_mono D) 3 (G := True) (fr' := (if decide (x1 < (14 : Int32)) = true then 15 else 10, [some (.ref 0), some (.int x1)], [], 0, 0)) (M' := (I, J, sm_rf 21 d)) rfl trivial (sm_W.iteD h (fun hc h => ?_) (fun hc h => ?_))
        · cases h
          exact sm_W.ret (sm_C_mono D) rfl (hQ1 _ rfl)
        · cases h
          exact sm_W.thr (sm_C_mono D) rfl (hQ2 _ rfl)
  · skip
    refine sm_W.run (sm_C_mono D) 2 (G := True) (fr' := (if decide (x1 < 0) = true then 10 else 2, [some (.ref 0), some (.int x1)], [], 0, 0)) (M' := (I, J, sm_rf 41 d)) rfl trivial (sm_W.iteD h (fun hc h => ?_) (fun hc h => ?_))
    · cases h
      exact sm_W.thr (sm_C_mono D) rfl (hQ2 _ rfl)
    · refine sm_W.run (sm_C_mono D) 5 (G := True) (fr' := (if decide ((I 41 0) ≤ x1) = true then 10 else 7, [some (.ref 0), some (.int x1)], [], 0, 0)) (M' := (I, J, sm_rf 41 d)) rfl trivial (sm_W.iteD h (fun hc h => ?_) (fun hc h => ?_))
      · cases h
        exact sm_W.thr (sm_C_mono D) rfl (hQ2 _ rfl)
      · refine sm_W.run (sm_C_mono D) 3 (G := True) (fr' := (if decide (x1 < (14 : Int32)) = true then 15 else 10, [some (.ref 0), some (.int x1)], [], 0, 0)) (M' := (I, J, sm_rf 41 d)) rfl trivial (sm_W.iteD h (fun hc h => ?_) (fun hc h => ?_))
        · cases h
          exact sm_W.ret (sm_C_mono D) rfl (hQ1 _ rfl)
        · cases h
          exact sm_W.thr (sm_C_mono D) rfl (hQ2 _ rfl)
theorem T_VM_checkSinger {X : Nat × (Nat → Int32)} {t d D : Nat} {Q : sm_Q} {I : sm_MI} {J : sm_MJ} {x1 : Int32} {rz : (Unit ⊕ Nat)}
    (hD : 1 ≤ D) (ht : t = 21 ∨ t = 41) (h : F_VM_checkSinger t x1 I = some (rz)) (hQ1 : ∀ v, rz = .inl v → Q (.inl none) (I, J, sm_rf t d)) (hQ2 : ∀ E, rz = .inr E → Q (.inr E) (I, J, sm_rf t d)) : sm_C sm_sh X sm_P D 151 [.ref 0, .int x1] (I, J, sm_rf t d) Q := by
  cases D with
  | zero => omega
  | succ D => exact sm_C.of (me := me_151) (L := [some (.ref 0), some (.int x1)]) rfl rfl rfl (sm_W.forget (L' := [some (.ref 0), some (.int x1)]) ⟨rfl, ⟨rfl, trivial⟩⟩ (G_VM_checkSinger (by omega) ht h hQ1 hQ2))
-- 107 VM_singer
noncomputable def F_VM_singer (t : Nat) (x1 : Int32) (x2 : Int32) (I : sm_MI) : Option ((Int32 ⊕ Nat)) :=
  sd_t1 (F_VM_checkSinger t x1 I) (fun r1 =>
    if x2 = (0 : Int32) then
      sd_gu (sm_in x1 14 = true) <|
      some (.inl (I (t + 1) (Int32.toNatClampNeg x1)))
    else if x2 = (1 : Int32) then
      sd_gu (sm_in x1 14 = true) <|
      some (.inl (I (t + 2) (Int32.toNatClampNeg x1)))
    else if x2 = (2 : Int32) then
      sd_gu (sm_in x1 14 = true) <|
      some (.inl (I (t + 3) (Int32.toNatClampNeg x1)))
    else if x2 = (3 : Int32) then
      sd_gu (sm_in x1 14 = true) <|
      some (.inl (I (t + 4) (Int32.toNatClampNeg x1)))
    else if x2 = (4 : Int32) then
      sd_gu (sm_in x1 14 = true) <|
      some (.inl (I (t + 5) (Int32.toNatClampNeg x1)))
    else if x2 = (5 : Int32) then
      sd_q1 (F_State_howIs 9 x1 I) fun r7 =>
      some (.inl r7)
    else 
      some (.inr 1))
    (fun r1 => some (.inr r1))
theorem G_VM_singer {X : Nat × (Nat → Int32)} {t d D : Nat} {Q : sm_Q} {I : sm_MI} {J : sm_MJ} {x1 : Int32} {x2 : Int32} {rz : (Int32 ⊕ Nat)}
    (hD : 1 ≤ D) (ht : t = 21 ∨ t = 41) (h : F_VM_singer t x1 x2 I = some (rz)) (hQ1 : ∀ v, rz = .inl v → Q (.inl (some (.int v))) (I, J, sm_rf t d)) (hQ2 : ∀ E, rz = .inr E → Q (.inr E) (I, J, sm_rf t d))  : sm_W sm_sh X (sm_C sm_sh X sm_P D) me_107 Q (0, [some (.ref 0), some (.int x1), some (.int x2)], [], 0, 0) (I, J, sm_rf t d) := by
  unfold F_VM_singer at h
  rcases ht with rfl | rfl
  · skip
    refine sm_W.run (sm_C_mono D) 2 (G := True) (fr' := (2, [some (.ref 0), some (.int x1), some (.int x2)], [.int x1, .ref 0], 0, 0)) (M' := (I, J, sm_rf 21 d)) rfl trivial ?_
    rcases sd_t1_go h with ⟨r1, hc, h⟩ | ⟨r1, hc, h⟩
    · refine sm_W.cal (sm_C_mono D) (y := 151) (as := [.ref 0, .int x1]) (fr' := (3, [some (.ref 0), some (.int x1), some (.int x2)], [], 1, 6)) rfl (T_VM_checkSinger (by omega) (by decide) hc (fun _ e => ?_) (fun _ e => by cases e))
      cases e
      show sm_W sm_sh X (sm_C sm_sh X sm_P D) me_107 Q (3, [some (.ref 0), some (.int x1), some (.int x2)], [], 1, 6) (I, J, sm_rf 21 d)
      refine sm_W.run (sm_C_mono D) 2 (G := True) (fr' := (sm_sw (Int32.toInt x2) (0) [5, 11, 17, 23, 29, 35] 41, [some (.ref 0), some (.int x1), some (.int x2)], [], 1, 6)) (M' := (I, J, sm_rf 21 d)) rfl trivial ?_
      rw [sd_sw_eq]
      refine sm_W.swS (c := (0 : Int32)) (by decide) h (fun h => ?_) (fun h => ?_)
      · obtain ⟨g2, h⟩ := sd_gu_go h
        refine sm_W.run (sm_C_mono D) 5 (G := sm_in x1 14 = true ∧ True) (fr' := (10, [some (.ref 0), some (.int x1), some (.int x2)], [.int (I (21 + 1) (Int32.toNatClampNeg x1))], 1, 6)) (M' := (I, J, sm_rf 21 d)) rfl ⟨g2, trivial⟩ ?_
        cases h
        exact sm_W.ret (sm_C_mono D) rfl (hQ1 _ rfl)
      refine sm_W.swS (c := (1 : Int32)) (by decide) h (fun h => ?_) (fun h => ?_)
      · obtain ⟨g3, h⟩ := sd_gu_go h
        refine sm_W.run (sm_C_mono D) 5 (G := sm_in x1 14 = true ∧ True) (fr' := (16, [some (.ref 0), some (.int x1), some (.int x2)], [.int (I (21 + 2) (Int32.toNatClampNeg x1))], 1, 6)) (M' := (I, J, sm_rf 21 d)) rfl ⟨g3, trivial⟩ ?_
        cases h
        exact sm_W.ret (sm_C_mono D) rfl (hQ1 _ rfl)
      refine sm_W.swS (c := (2 : Int32)) (by decide) h (fun h => ?_) (fun h => ?_)
      · obtain ⟨g4, h⟩ := sd_gu_go h
        refine sm_W.run (sm_C_mono D) 5 (G := sm_in x1 14 = true ∧ True) (fr' := (22, [some (.ref 0), some (.int x1), some (.int x2)], [.int (I (21 + 3) (Int32.toNatClampNeg x1))], 1, 6)) (M' := (I, J, sm_rf 21 d)) rfl ⟨g4, trivial⟩ ?_
        cases h
        exact sm_W.ret (sm_C_mono D) rfl (hQ1 _ rfl)
      refine sm_W.swS (c := (3 : Int32)) (by decide) h (fun h => ?_) (fun h => ?_)
      · obtain ⟨g5, h⟩ := sd_gu_go h
        refine sm_W.run (sm_C_mono D) 5 (G := sm_in x1 14 = true ∧ True) (fr' := (28, [some (.ref 0), some (.int x1), some (.int x2)], [.int (I (21 + 4) (Int32.toNatClampNeg x1))], 1, 6)) (M' := (I, J, sm_rf 21 d)) rfl ⟨g5, trivial⟩ ?_
        cases h
        exact sm_W.ret (sm_C_mono D) rfl (hQ1 _ rfl)
      refine sm_W.swS (c := (4 : Int32)) (by decide) h (fun h => ?_) (fun h => ?_)
      · obtain ⟨g6, h⟩ := sd_gu_go h
        refine sm_W.run (sm_C_mono D) 5 (G := sm_in x1 14 = true ∧ True) (fr' := (34, [some (.ref 0), some (.int x1), some (.int x2)], [.int (I (21 + 5) (Int32.toNatClampNeg x1))], 1, 6)) (M' := (I, J, sm_rf 21 d)) rfl ⟨g6, trivial⟩ ?_
        cases h
        exact sm_W.ret (sm_C_mono D) rfl (hQ1 _ rfl)
      refine sm_W.swS (c := (5 : Int32)) (by decide) h (fun h => ?_) (fun h => ?_)
      · refine sm_W.run (sm_C_mono D) 4 (G := True) (fr' := (39, [some (.ref 0), some (.int x1), some (.int x2)], [.int x1, .ref 9], 1, 6)) (M' := (I, J, sm_rf 21 d)) rfl trivial ?_
        obtain ⟨r7, hc, h⟩ := sd_q1_go h
        refine sm_W.cal (sm_C_mono D) (y := 61) (as := [.ref 9, .int x1]) (fr' := (40, [some (.ref 0), some (.int x1), some (.int x2)], [], 1, 6)) rfl (T_State_howIs (by omega) (by decide) hc ?_)
        show sm_W sm_sh X (sm_C sm_sh X sm_P D) me_107 Q (40, [some (.ref 0), some (.int x1), some (.int x2)], [.int r7], 1, 6) (I, J, sm_rf 21 d)
        cases h
        exact sm_W.ret (sm_C_mono D) rfl (hQ1 _ rfl)
      cases h
      exact sm_W.thr (sm_C_mono D) rfl (hQ2 _ rfl)
    · refine sm_W.cal (sm_C_mono D) (y := 151) (as := [.ref 0, .int x1]) (fr' := (3, [some (.ref 0), some (.int x1), some (.int x2)], [], 1, 6)) rfl (T_VM_checkSinger (by omega) (by decide) hc (fun _ e => by cases e) (fun _ e => ?_))
      cases e
      cases h
      exact ⟨rfl, hQ2 _ rfl⟩
  · skip
    refine sm_W.run (sm_C_mono D) 2 (G := True) (fr' := (2, [some (.ref 0), some (.int x1), some (.int x2)], [.int x1, .ref 0], 0, 0)) (M' := (I, J, sm_rf 41 d)) rfl trivial ?_
    rcases sd_t1_go h with ⟨r1, hc, h⟩ | ⟨r1, hc, h⟩
    · refine sm_W.cal (sm_C_mono D) (y := 151) (as := [.ref 0, .int x1]) (fr' := (3, [some (.ref 0), some (.int x1), some (.int x2)], [], 1, 6)) rfl (T_VM_checkSinger (by omega) (by decide) hc (fun _ e => ?_) (fun _ e => by cases e))
      cases e
      show sm_W sm_sh X (sm_C sm_sh X sm_P D) me_107 Q (3, [some (.ref 0), some (.int x1), some (.int x2)], [], 1, 6) (I, J, sm_rf 41 d)
      refine sm_W.run (sm_C_mono D) 2 (G := True) (fr' := (sm_sw (Int32.toInt x2) (0) [5, 11, 17, 23, 29, 35] 41, [some (.ref 0), some (.int x1), some (.int x2)], [], 1, 6)) (M' := (I, J, sm_rf 41 d)) rfl trivial ?_
      rw [sd_sw_eq]
      refine sm_W.swS (c := (0 : Int32)) (by decide) h (fun h => ?_) (fun h => ?_)
      · obtain ⟨g2, h⟩ := sd_gu_go h
        refine sm_W.run (sm_C_mono D) 5 (G := sm_in x1 14 = true ∧ True) (fr' := (10, [some (.ref 0), some (.int x1), some (.int x2)], [.int (I (41 + 1) (Int32.toNatClampNeg x1))], 1, 6)) (M' := (I, J, sm_rf 41 d)) rfl ⟨g2, trivial⟩ ?_
        cases h
        exact sm_W.ret (sm_C_mono D) rfl (hQ1 _ rfl)
      refine sm_W.swS (c := (1 : Int32)) (by decide) h (fun h => ?_) (fun h => ?_)
      · obtain ⟨g3, h⟩ := sd_gu_go h
        refine sm_W.run (sm_C_mono D) 5 (G := sm_in x1 14 = true ∧ True) (fr' := (16, [some (.ref 0), some (.int x1), some (.int x2)], [.int (I (41 + 2) (Int32.toNatClampNeg x1))], 1, 6)) (M' := (I, J, sm_rf 41 d)) rfl ⟨g3, trivial⟩ ?_
        cases h
        exact sm_W.ret (sm_C_mono D) rfl (hQ1 _ rfl)
      refine sm_W.swS (c := (2 : Int32)) (by decide) h (fun h => ?_) (fun h => ?_)
      · obtain ⟨g4, h⟩ := sd_gu_go h
        refine sm_W.run (sm_C_mono D) 5 (G := sm_in x1 14 = true ∧ True) (fr' := (22, [some (.ref 0), some (.int x1), some (.int x2)], [.int (I (41 + 3) (Int32.toNatClampNeg x1))], 1, 6)) (M' := (I, J, sm_rf 41 d)) rfl ⟨g4, trivial⟩ ?_
        cases h
        exact sm_W.ret (sm_C_mono D) rfl (hQ1 _ rfl)
      refine sm_W.swS (c := (3 : Int32)) (by decide) h (fun h => ?_) (fun h => ?_)
      · obtain ⟨g5, h⟩ := sd_gu_go h
        refine sm_W.run (sm_C_mono D) 5 (G := sm_in x1 14 = true ∧ True) (fr' := (28, [some (.ref 0), some (.int x1), some (.int x2)], [.int (I (41 + 4) (Int32.toNatClampNeg x1))], 1, 6)) (M' := (I, J, sm_rf 41 d)) rfl ⟨g5, trivial⟩ ?_
        cases h
        exact sm_W.ret (sm_C_mono D) rfl (hQ1 _ rfl)
      refine sm_W.swS (c := (4 : Int32)) (by decide) h (fun h => ?_) (fun h => ?_)
      · obtain ⟨g6, h⟩ := sd_gu_go h
        refine sm_W.run (sm_C_mono D) 5 (G := sm_in x1 14 = true ∧ True) (fr' := (34, [some (.ref 0), some (.int x1), some (.int x2)], [.int (I (41 + 5) (Int32.toNatClampNeg x1))], 1, 6)) (M' := (I, J, sm_rf 41 d)) rfl ⟨g6, trivial⟩ ?_
        cases h
        exact sm_W.ret (sm_C_mono D) rfl (hQ1 _ rfl)
      refine sm_W.swS (c := (5 : Int32)) (by decide) h (fun h => ?_) (fun h => ?_)
      · refine sm_W.run (sm_C_mono D) 4 (G := True) (fr' := (39, [some (.ref 0), some (.int x1), some (.int x2)], [.int x1, .ref 9], 1, 6)) (M' := (I, J, sm_rf 41 d)) rfl trivial ?_
        obtain ⟨r7, hc, h⟩ := sd_q1_go h
        refine sm_W.cal (sm_C_mono D) (y := 61) (as := [.ref 9, .int x1]) (fr' := (40, [some (.ref 0), some (.int x1), some (.int x2)], [], 1, 6)) rfl (T_State_howIs (by omega) (by decide) hc ?_)
        show sm_W sm_sh X (sm_C sm_sh X sm_P D) me_107 Q (40, [some (.ref 0), some (.int x1), some (.int x2)], [.int r7], 1, 6) (I, J, sm_rf 41 d)
        cases h
        exact sm_W.ret (sm_C_mono D) rfl (hQ1 _ rfl)
      cases h
      exact sm_W.thr (sm_C_mono D) rfl (hQ2 _ rfl)
    · refine sm_W.cal (sm_C_mono D) (y := 151) (as := [.ref 0, .int x1]) (fr' := (3, [some (.ref 0), some (.int x1), some (.int x2)], [], 1, 6)) rfl (T_VM_checkSinger (by omega) (by decide) hc (fun _ e => by cases e) (fun _ e => ?_))
      cases e
      cases h
      exact ⟨rfl, hQ2 _ rfl⟩
theorem T_VM_singer {X : Nat × (Nat → Int32)} {t d D : Nat} {Q : sm_Q} {I : sm_MI} {J : sm_MJ} {x1 : Int32} {x2 : Int32} {rz : (Int32 ⊕ Nat)}
    (hD : 2 ≤ D) (ht : t = 21 ∨ t = 41) (h : F_VM_singer t x1 x2 I = some (rz)) (hQ1 : ∀ v, rz = .inl v → Q (.inl (some (.int v))) (I, J, sm_rf t d)) (hQ2 : ∀ E, rz = .inr E → Q (.inr E) (I, J, sm_rf t d)) : sm_C sm_sh X sm_P D 107 [.ref 0, .int x1, .int x2] (I, J, sm_rf t d) Q := by
  cases D with
  | zero => omega
  | succ D => exact sm_C.of (me := me_107) (L := [some (.ref 0), some (.int x1), some (.int x2)]) rfl rfl rfl (sm_W.forget (L' := [some (.ref 0), some (.int x1), some (.int x2)]) ⟨rfl, ⟨rfl, ⟨rfl, trivial⟩⟩⟩ (G_VM_singer (by omega) ht h hQ1 hQ2))
-- 152 VM_checkPiece
noncomputable def F_VM_checkPiece (t : Nat) (x1 : Int32) (I : sm_MI) : Option ((Unit ⊕ Nat)) :=
  if x1 < 0 then
    some (.inr 1)
  else
    if (I t 1) ≤ x1 then
      some (.inr 1)
    else
      if x1 < (5 : Int32) then
        some (.inl ())
      else
        some (.inr 1)
theorem G_VM_checkPiece {X : Nat × (Nat → Int32)} {t d D : Nat} {Q : sm_Q} {I : sm_MI} {J : sm_MJ} {x1 : Int32} {rz : (Unit ⊕ Nat)}
    (hD : 0 ≤ D) (ht : t = 21 ∨ t = 41) (h : F_VM_checkPiece t x1 I = some (rz)) (hQ1 : ∀ v, rz = .inl v → Q (.inl none) (I, J, sm_rf t d)) (hQ2 : ∀ E, rz = .inr E → Q (.inr E) (I, J, sm_rf t d))  : sm_W sm_sh X (sm_C sm_sh X sm_P D) me_152 Q (0, [some (.ref 0), some (.int x1)], [], 0, 0) (I, J, sm_rf t d) := by
  unfold F_VM_checkPiece at h
  rcases ht with rfl | rfl
  · skip
    refine sm_W.run (sm_C_mono D) 2 (G := True) (fr' := (if decide (x1 < 0) = true then 10 else 2, [some (.ref 0), some (.int x1)], [], 0, 0)) (M' := (I, J, sm_rf 21 d)) rfl trivial (sm_W.iteD h (fun hc h => ?_) (fun hc h => ?_))
    · cases h
      exact sm_W.thr (sm_C_mono D) rfl (hQ2 _ rfl)
    · refine sm_W.run (sm_C_mono D) 5 (G := True) (fr' := (if decide ((I 21 1) ≤ x1) = true then 10 else 7, [some (.ref 0), some (.int x1)], [], 0, 0)) (M' := (I, J, sm_rf 21 d)) rfl trivial (sm_W.iteD h (fun hc h => ?_) (fun hc h => ?_))
      · cases h
        exact sm_W.thr (sm_C_mono D) rfl (hQ2 _ rfl)
      · refine sm_W.run (sm_C_mono D) 3 (G := True) (fr' := (if decide (x1 < (5 : Int32)) = true then 15 else 10, [some (.ref 0), some (.int x1)], [], 0, 0)) (M' := (I, J, sm_rf 21 d)) rfl trivial (sm_W.iteD h (fun hc h => ?_) (fun hc h => ?_))
        · cases h
          exact sm_W.ret (sm_C_mono D) rfl (hQ1 _ rfl)
        · cases h
          exact sm_W.thr (sm_C_mono D) rfl (hQ2 _ rfl)
  · skip
    refine sm_W.run (sm_C_mono D) 2 (G := True) (fr' := (if decide (x1 < 0) = true then 10 else 2, [some (.ref 0), some (.int x1)], [], 0, 0)) (M' := (I, J, sm_rf 41 d)) rfl trivial (sm_W.iteD h (fun hc h => ?_) (fun hc h => ?_))
    · cases h
      exact sm_W.thr (sm_C_mono D) rfl (hQ2 _ rfl)
    · refine sm_W.run (sm_C_mono D) 5 (G := True) (fr' := (if decide ((I 41 1) ≤ x1) = true then 10 else 7, [some (.ref 0), some (.int x1)], [], 0, 0)) (M' := (I, J, sm_rf 41 d)) rfl trivial (sm_W.iteD h (fun hc h => ?_) (fun hc h => ?_))
      · cases h
        exact sm_W.thr (sm_C_mono D) rfl (hQ2 _ rfl)
      · refine sm_W.run (sm_C_mono D) 3 (G := True) (fr' := (if decide (x1 < (5 : Int32)) = true then 15 else 10, [some (.ref 0), some (.int x1)], [], 0, 0)) (M' := (I, J, sm_rf 41 d)) rfl trivial (sm_W.iteD h (fun hc h => ?_) (fun hc h => ?_))
        · cases h
          exact sm_W.ret (sm_C_mono D) rfl (hQ1 _ rfl)
        · cases h
          exact sm_W.thr (sm_C_mono D) rfl (hQ2 _ rfl)
theorem T_VM_checkPiece {X : Nat × (Nat → Int32)} {t d D : Nat} {Q : sm_Q} {I : sm_MI} {J : sm_MJ} {x1 : Int32} {rz : (Unit ⊕ Nat)}
    (hD : 1 ≤ D) (ht : t = 21 ∨ t = 41) (h : F_VM_checkPiece t x1 I = some (rz)) (hQ1 : ∀ v, rz = .inl v → Q (.inl none) (I, J, sm_rf t d)) (hQ2 : ∀ E, rz = .inr E → Q (.inr E) (I, J, sm_rf t d)) : sm_C sm_sh X sm_P D 152 [.ref 0, .int x1] (I, J, sm_rf t d) Q := by
  cases D with
  | zero => omega
  | succ D => exact sm_C.of (me := me_152) (L := [some (.ref 0), some (.int x1)]) rfl rfl rfl (sm_W.forget (L' := [some (.ref 0), some (.int x1)]) ⟨rfl, ⟨rfl, trivial⟩⟩ (G_VM_checkPiece (by omega) ht h hQ1 hQ2))
-- 153 VM_checkPart
noncomputable def F_VM_checkPart (x1 : Int32) : Option ((Unit ⊕ Nat)) :=
  if x1 < 0 then
    some (.inr 1)
  else
    if x1 < (4 : Int32) then
      some (.inl ())
    else
      some (.inr 1)
theorem G_VM_checkPart {X : Nat × (Nat → Int32)} {t d D : Nat} {Q : sm_Q} {I : sm_MI} {J : sm_MJ} {x1 : Int32} {rz : (Unit ⊕ Nat)}
    (hD : 0 ≤ D) (h : F_VM_checkPart x1 = some (rz)) (hQ1 : ∀ v, rz = .inl v → Q (.inl none) (I, J, sm_rf t d)) (hQ2 : ∀ E, rz = .inr E → Q (.inr E) (I, J, sm_rf t d))  : sm_W sm_sh X (sm_C sm_sh X sm_P D) me_153 Q (0, [none, some (.int x1)], [], 0, 0) (I, J, sm_rf t d) := by
  unfold F_VM_checkPart at h
  refine sm_W.run (sm_C_mono D) 2 (G := True) (fr' := (if decide (x1 < 0) = true then 5 else 2, [none, some (.int x1)], [], 0, 0)) (M' := (I, J, sm_rf t d)) rfl trivial (sm_W.iteD h (fun hc h => ?_) (fun hc h => ?_))
  · cases h
    exact sm_W.thr (sm_C_mono D) rfl (hQ2 _ rfl)
  · refine sm_W.run (sm_C_mono D) 3 (G := True) (fr' := (if decide (x1 < (4 : Int32)) = true then 10 else 5, [none, some (.int x1)], [], 0, 0)) (M' := (I, J, sm_rf t d)) rfl trivial (sm_W.iteD h (fun hc h => ?_) (fun hc h => ?_))
    · cases h
      exact sm_W.ret (sm_C_mono D) rfl (hQ1 _ rfl)
    · cases h
      exact sm_W.thr (sm_C_mono D) rfl (hQ2 _ rfl)
theorem T_VM_checkPart {X : Nat × (Nat → Int32)} {t d D : Nat} {Q : sm_Q} {I : sm_MI} {J : sm_MJ} {x1 : Int32} {rz : (Unit ⊕ Nat)}
    (hD : 1 ≤ D) (h : F_VM_checkPart x1 = some (rz)) (hQ1 : ∀ v, rz = .inl v → Q (.inl none) (I, J, sm_rf t d)) (hQ2 : ∀ E, rz = .inr E → Q (.inr E) (I, J, sm_rf t d)) : sm_C sm_sh X sm_P D 153 [.ref 0, .int x1] (I, J, sm_rf t d) Q := by
  cases D with
  | zero => omega
  | succ D => exact sm_C.of (me := me_153) (L := [some (.ref 0), some (.int x1)]) rfl rfl rfl (sm_W.forget (L' := [none, some (.int x1)]) ⟨rfl, trivial⟩ (G_VM_checkPart (by omega) h hQ1 hQ2))
-- 154 VM_checkRow
noncomputable def F_VM_checkRow (t : Nat) (x1 : Int32) (x2 : Int32) (I : sm_MI) : Option ((Unit ⊕ Nat)) :=
  sd_t1 (F_VM_checkPiece t x1 I) (fun r1 =>
    sd_t1 (F_VM_checkPart x2) (fun r2 =>
      some (.inl ()))
      (fun r2 => some (.inr r2)))
    (fun r1 => some (.inr r1))
theorem G_VM_checkRow {X : Nat × (Nat → Int32)} {t d D : Nat} {Q : sm_Q} {I : sm_MI} {J : sm_MJ} {x1 : Int32} {x2 : Int32} {rz : (Unit ⊕ Nat)}
    (hD : 1 ≤ D) (ht : t = 21 ∨ t = 41) (h : F_VM_checkRow t x1 x2 I = some (rz)) (hQ1 : ∀ v, rz = .inl v → Q (.inl none) (I, J, sm_rf t d)) (hQ2 : ∀ E, rz = .inr E → Q (.inr E) (I, J, sm_rf t d))  : sm_W sm_sh X (sm_C sm_sh X sm_P D) me_154 Q (0, [some (.ref 0), some (.int x1), some (.int x2)], [], 0, 0) (I, J, sm_rf t d) := by
  unfold F_VM_checkRow at h
  rcases ht with rfl | rfl
  · skip
    refine sm_W.run (sm_C_mono D) 2 (G := True) (fr' := (2, [some (.ref 0), some (.int x1), some (.int x2)], [.int x1, .ref 0], 0, 0)) (M' := (I, J, sm_rf 21 d)) rfl trivial ?_
    rcases sd_t1_go h with ⟨r1, hc, h⟩ | ⟨r1, hc, h⟩
    · refine sm_W.cal (sm_C_mono D) (y := 152) (as := [.ref 0, .int x1]) (fr' := (3, [some (.ref 0), some (.int x1), some (.int x2)], [], 1, 6)) rfl (T_VM_checkPiece (by omega) (by decide) hc (fun _ e => ?_) (fun _ e => by cases e))
      cases e
      show sm_W sm_sh X (sm_C sm_sh X sm_P D) me_154 Q (3, [some (.ref 0), some (.int x1), some (.int x2)], [], 1, 6) (I, J, sm_rf 21 d)
      refine sm_W.run (sm_C_mono D) 2 (G := True) (fr' := (5, [some (.ref 0), some (.int x1), some (.int x2)], [.int x2, .ref 0], 1, 6)) (M' := (I, J, sm_rf 21 d)) rfl trivial ?_
      rcases sd_t1_go h with ⟨r2, hc, h⟩ | ⟨r2, hc, h⟩
      · refine sm_W.cal (sm_C_mono D) (y := 153) (as := [.ref 0, .int x2]) (fr' := (6, [some (.ref 0), some (.int x1), some (.int x2)], [], 2, 12)) rfl (T_VM_checkPart (by omega) hc (fun _ e => ?_) (fun _ e => by cases e))
        cases e
        show sm_W sm_sh X (sm_C sm_sh X sm_P D) me_154 Q (6, [some (.ref 0), some (.int x1), some (.int x2)], [], 2, 12) (I, J, sm_rf 21 d)
        cases h
        exact sm_W.ret (sm_C_mono D) rfl (hQ1 _ rfl)
      · refine sm_W.cal (sm_C_mono D) (y := 153) (as := [.ref 0, .int x2]) (fr' := (6, [some (.ref 0), some (.int x1), some (.int x2)], [], 2, 12)) rfl (T_VM_checkPart (by omega) hc (fun _ e => by cases e) (fun _ e => ?_))
        cases e
        cases h
        exact ⟨rfl, hQ2 _ rfl⟩
    · refine sm_W.cal (sm_C_mono D) (y := 152) (as := [.ref 0, .int x1]) (fr' := (3, [some (.ref 0), some (.int x1), some (.int x2)], [], 1, 6)) rfl (T_VM_checkPiece (by omega) (by decide) hc (fun _ e => by cases e) (fun _ e => ?_))
      cases e
      cases h
      exact ⟨rfl, hQ2 _ rfl⟩
  · skip
    refine sm_W.run (sm_C_mono D) 2 (G := True) (fr' := (2, [some (.ref 0), some (.int x1), some (.int x2)], [.int x1, .ref 0], 0, 0)) (M' := (I, J, sm_rf 41 d)) rfl trivial ?_
    rcases sd_t1_go h with ⟨r1, hc, h⟩ | ⟨r1, hc, h⟩
    · refine sm_W.cal (sm_C_mono D) (y := 152) (as := [.ref 0, .int x1]) (fr' := (3, [some (.ref 0), some (.int x1), some (.int x2)], [], 1, 6)) rfl (T_VM_checkPiece (by omega) (by decide) hc (fun _ e => ?_) (fun _ e => by cases e))
      cases e
      show sm_W sm_sh X (sm_C sm_sh X sm_P D) me_154 Q (3, [some (.ref 0), some (.int x1), some (.int x2)], [], 1, 6) (I, J, sm_rf 41 d)
      refine sm_W.run (sm_C_mono D) 2 (G := True) (fr' := (5, [some (.ref 0), some (.int x1), some (.int x2)], [.int x2, .ref 0], 1, 6)) (M' := (I, J, sm_rf 41 d)) rfl trivial ?_
      rcases sd_t1_go h with ⟨r2, hc, h⟩ | ⟨r2, hc, h⟩
      · refine sm_W.cal (sm_C_mono D) (y := 153) (as := [.ref 0, .int x2]) (fr' := (6, [some (.ref 0), some (.int x1), some (.int x2)], [], 2, 12)) rfl (T_VM_checkPart (by omega) hc (fun _ e => ?_) (fun _ e => by cases e))
        cases e
        show sm_W sm_sh X (sm_C sm_sh X sm_P D) me_154 Q (6, [some (.ref 0), some (.int x1), some (.int x2)], [], 2, 12) (I, J, sm_rf 41 d)
        cases h
        exact sm_W.ret (sm_C_mono D) rfl (hQ1 _ rfl)
      · refine sm_W.cal (sm_C_mono D) (y := 153) (as := [.ref 0, .int x2]) (fr' := (6, [some (.ref 0), some (.int x1), some (.int x2)], [], 2, 12)) rfl (T_VM_checkPart (by omega) hc (fun _ e => by cases e) (fun _ e => ?_))
        cases e
        cases h
        exact ⟨rfl, hQ2 _ rfl⟩
    · refine sm_W.cal (sm_C_mono D) (y := 152) (as := [.ref 0, .int x1]) (fr' := (3, [some (.ref 0), some (.int x1), some (.int x2)], [], 1, 6)) rfl (T_VM_checkPiece (by omega) (by decide) hc (fun _ e => by cases e) (fun _ e => ?_))
      cases e
      cases h
      exact ⟨rfl, hQ2 _ rfl⟩
theorem T_VM_checkRow {X : Nat × (Nat → Int32)} {t d D : Nat} {Q : sm_Q} {I : sm_MI} {J : sm_MJ} {x1 : Int32} {x2 : Int32} {rz : (Unit ⊕ Nat)}
    (hD : 2 ≤ D) (ht : t = 21 ∨ t = 41) (h : F_VM_checkRow t x1 x2 I = some (rz)) (hQ1 : ∀ v, rz = .inl v → Q (.inl none) (I, J, sm_rf t d)) (hQ2 : ∀ E, rz = .inr E → Q (.inr E) (I, J, sm_rf t d)) : sm_C sm_sh X sm_P D 154 [.ref 0, .int x1, .int x2] (I, J, sm_rf t d) Q := by
  cases D with
  | zero => omega
  | succ D => exact sm_C.of (me := me_154) (L := [some (.ref 0), some (.int x1), some (.int x2)]) rfl rfl rfl (sm_W.forget (L' := [some (.ref 0), some (.int x1), some (.int x2)]) ⟨rfl, ⟨rfl, ⟨rfl, trivial⟩⟩⟩ (G_VM_checkRow (by omega) ht h hQ1 hQ2))
