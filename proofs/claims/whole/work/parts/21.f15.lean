/-! ===== printed by wip/gen/emit_parts.py: what the methods compute ===== -/
-- 227 Mo_keys
noncomputable def F_Mo_keys_18B (k18 : Int32 → Int32 → Int32 → Int32 → sm_MI → Option (Int32 × sm_MI)) (x1 : Int32) (x2 : Int32) (x3 : Int32) (x4 : Int32) (I : sm_MI) : Option (Int32 × sm_MI) :=
  if (I 61 1) ≤ x4 then
    some (x3, I)
  else
    if ¬ ((x1 >>> (x4 &&& 31)) &&& (1 : Int32)) = (1 : Int32) then
      sd_lt (x3 ||| (0 : Int32)) fun a1 =>
      k18 x1 x2 a1 (x4 + (1 : Int32)) I
    else
      sd_q1 (F_Mo_sungBy (x1 &&& (((1 : Int32) <<< (x4 &&& 31)) ^^^ (-1 : Int32))) I) fun r2 =>
      sd_q1 (F_Mo_bits r2) fun r3 =>
      if x2 ≤ r3 then
        sd_lt (x3 ||| (0 : Int32)) fun a4 =>
        k18 x1 x2 a4 (x4 + (1 : Int32)) I
      else
        sd_lt (x3 ||| ((1 : Int32) <<< (x4 &&& 31))) fun a5 =>
        k18 x1 x2 a5 (x4 + (1 : Int32)) I
noncomputable def F_Mo_keys_18  (n : Nat) : Int32 → Int32 → Int32 → Int32 → sm_MI → Option (Int32 × sm_MI) :=
  sd_fix (fun k x1 x2 x3 x4 I => F_Mo_keys_18B k x1 x2 x3 x4 I) (fun _ _ _ _ _ => none) n
noncomputable def F_Mo_keys (I : sm_MI) : Option (Int32 × sm_MI) :=
  sd_lt (sd_up I 61 0 (0 : Int32)) fun I1 =>
  sd_q1 (F_Mo_areSo 86 (0 : Int32) I1) fun r2 =>
  sd_q1 (F_Mo_sungBy r2 I1) fun r3 =>
  sd_q1 (F_Mo_bits r3) fun r4 =>
  F_Mo_keys_18 sd_fu r2 r4 (0 : Int32) (0 : Int32) I1
theorem G_Mo_keys_18B {X : Nat × (Nat → Int32)} {t d D : Nat} {Q : sm_Q} {I : sm_MI} {J : sm_MJ} {k18 : Int32 → Int32 → Int32 → Int32 → sm_MI → Option (Int32 × sm_MI)} {x1 : Int32} {x2 : Int32} {x3 : Int32} {x4 : Int32} {rz : Int32} {Iz : sm_MI}
    (hD : 5 ≤ D) (h : F_Mo_keys_18B k18 x1 x2 x3 x4 I = some (rz, Iz)) (hQ : Q (.inl (some (.int rz))) (Iz, J, sm_rf t d)) (hk18 : ∀ (x1 : Int32) (x2 : Int32) (x3 : Int32) (x4 : Int32) (I : sm_MI), k18 x1 x2 x3 x4 I = some (rz, Iz) → sm_W sm_sh X (sm_C sm_sh X sm_P D) me_227 Q (18, [some (.ref 61), some (.int x1), some (.int x2), some (.int x3), some (.int x4)], [], 0, 0) (I, J, sm_rf t d)) : sm_W sm_sh X (sm_C sm_sh X sm_P D) me_227 Q (18, [some (.ref 61), some (.int x1), some (.int x2), some (.int x3), some (.int x4)], [], 0, 0) (I, J, sm_rf t d) := by
  unfold F_Mo_keys_18B at h
  refine sm_W.run (sm_C_mono D) 4 (G := True) (fr' := (if decide ((I 61 1) ≤ x4) = true then 51 else 22, [some (.ref 61), some (.int x1), some (.int x2), some (.int x3), some (.int x4)], [], 0, 0)) (M' := (I, J, sm_rf t d)) rfl trivial (sm_W.iteD h (fun hc h => ?_) (fun hc h => ?_))
  · refine sm_W.run (sm_C_mono D) 1 (G := True) (fr' := (52, [some (.ref 61), some (.int x1), some (.int x2), some (.int x3), some (.int x4)], [.int x3], 0, 0)) (M' := (I, J, sm_rf t d)) rfl trivial ?_
    cases h
    exact sm_W.ret (sm_C_mono D) rfl hQ
  · refine sm_W.run (sm_C_mono D) 8 (G := True) (fr' := (if decide (¬ ((x1 >>> (x4 &&& 31)) &&& (1 : Int32)) = (1 : Int32)) = true then 46 else 30, [some (.ref 61), some (.int x1), some (.int x2), some (.int x3), some (.int x4)], [.int x3], 0, 0)) (M' := (I, J, sm_rf t d)) rfl trivial (sm_W.iteD h (fun hc h => ?_) (fun hc h => ?_))
    · refine sm_W.runL (sm_C_mono D) 3 (G := True) (e := (x3 ||| (0 : Int32))) (fr' := fun a1 => (49, [some (.ref 61), some (.int x1), some (.int x2), some (.int a1), some (.int x4)], [], 0, 0)) (M' := fun _ => (I, J, sm_rf t d)) rfl h trivial (fun a1 h => ?_)
      refine sm_W.run (sm_C_mono D) 2 (G := True) (fr' := (18, [some (.ref 61), some (.int x1), some (.int x2), some (.int a1), some (.int (x4 + (1 : Int32)))], [], 0, 0)) (M' := (I, J, sm_rf t d)) rfl trivial ?_
      exact (hk18 _ _ _ _ _ h)
    · refine sm_W.run (sm_C_mono D) 8 (G := True) (fr' := (38, [some (.ref 61), some (.int x1), some (.int x2), some (.int x3), some (.int x4)], [.int (x1 &&& (((1 : Int32) <<< (x4 &&& 31)) ^^^ (-1 : Int32))), .ref 61, .int x3], 0, 0)) (M' := (I, J, sm_rf t d)) rfl trivial ?_
      obtain ⟨r2, hc, h⟩ := sd_q1_go h
      refine sm_W.cal (sm_C_mono D) (y := 202) (as := [.ref 61, .int (x1 &&& (((1 : Int32) <<< (x4 &&& 31)) ^^^ (-1 : Int32)))]) (fr' := (39, [some (.ref 61), some (.int x1), some (.int x2), some (.int x3), some (.int x4)], [.int x3], 0, 0)) rfl (T_Mo_sungBy (by omega) hc ?_)
      show sm_W sm_sh X (sm_C sm_sh X sm_P D) me_227 Q (39, [some (.ref 61), some (.int x1), some (.int x2), some (.int x3), some (.int x4)], [.int r2, .int x3], 0, 0) (I, J, sm_rf t d)
      obtain ⟨r3, hc, h⟩ := sd_q1_go h
      refine sm_W.cal (sm_C_mono D) (y := 161) (as := [.int r2]) (fr' := (40, [some (.ref 61), some (.int x1), some (.int x2), some (.int x3), some (.int x4)], [.int x3], 0, 0)) rfl (T_Mo_bits (by omega) hc ?_)
      show sm_W sm_sh X (sm_C sm_sh X sm_P D) me_227 Q (40, [some (.ref 61), some (.int x1), some (.int x2), some (.int x3), some (.int x4)], [.int r3, .int x3], 0, 0) (I, J, sm_rf t d)
      refine sm_W.run (sm_C_mono D) 2 (G := True) (fr' := (if decide (x2 ≤ r3) = true then 46 else 42, [some (.ref 61), some (.int x1), some (.int x2), some (.int x3), some (.int x4)], [.int x3], 0, 0)) (M' := (I, J, sm_rf t d)) rfl trivial (sm_W.iteD h (fun hc h => ?_) (fun hc h => ?_))
      · refine sm_W.runL (sm_C_mono D) 3 (G := True) (e := (x3 ||| (0 : Int32))) (fr' := fun a4 => (49, [some (.ref 61), some (.int x1), some (.int x2), some (.int a4), some (.int x4)], [], 0, 0)) (M' := fun _ => (I, J, sm_rf t d)) rfl h trivial (fun a4 h => ?_)
        refine sm_W.run (sm_C_mono D) 2 (G := True) (fr' := (18, [some (.ref 61), some (.int x1), some (.int x2), some (.int a4), some (.int (x4 + (1 : Int32)))], [], 0, 0)) (M' := (I, J, sm_rf t d)) rfl trivial ?_
        exact (hk18 _ _ _ _ _ h)
      · refine sm_W.runL (sm_C_mono D) 6 (G := True) (e := (x3 ||| ((1 : Int32) <<< (x4 &&& 31)))) (fr' := fun a5 => (49, [some (.ref 61), some (.int x1), some (.int x2), some (.int a5), some (.int x4)], [], 0, 0)) (M' := fun _ => (I, J, sm_rf t d)) rfl h trivial (fun a5 h => ?_)
        refine sm_W.run (sm_C_mono D) 2 (G := True) (fr' := (18, [some (.ref 61), some (.int x1), some (.int x2), some (.int a5), some (.int (x4 + (1 : Int32)))], [], 0, 0)) (M' := (I, J, sm_rf t d)) rfl trivial ?_
        exact (hk18 _ _ _ _ _ h)
theorem G_Mo_keys_18 {X : Nat × (Nat → Int32)} {t d D : Nat} {Q : sm_Q} {J : sm_MJ} {rz : Int32} {Iz : sm_MI}
    (hD : 5 ≤ D) (hQ : Q (.inl (some (.int rz))) (Iz, J, sm_rf t d))  : ∀ (n : Nat) (x1 : Int32) (x2 : Int32) (x3 : Int32) (x4 : Int32) (I : sm_MI), F_Mo_keys_18 n x1 x2 x3 x4 I = some (rz, Iz) → sm_W sm_sh X (sm_C sm_sh X sm_P D) me_227 Q (18, [some (.ref 61), some (.int x1), some (.int x2), some (.int x3), some (.int x4)], [], 0, 0) (I, J, sm_rf t d) := by
  intro n
  induction n with
  | zero => intro x1 x2 x3 x4 I h; cases (show (none : Option (Int32 × sm_MI)) = some (rz, Iz) from h)
  | succ n ih => intro x1 x2 x3 x4 I h; exact G_Mo_keys_18B hD (show F_Mo_keys_18B (F_Mo_keys_18 n) x1 x2 x3 x4 I = some (rz, Iz) from h) hQ  ih
theorem G_Mo_keys {X : Nat × (Nat → Int32)} {t d D : Nat} {Q : sm_Q} {I : sm_MI} {J : sm_MJ} {rz : Int32} {Iz : sm_MI}
    (hD : 5 ≤ D) (h : F_Mo_keys I = some (rz, Iz)) (hQ : Q (.inl (some (.int rz))) (Iz, J, sm_rf t d))  : sm_W sm_sh X (sm_C sm_sh X sm_P D) me_227 Q (0, [some (.ref 61), none, none, none, none], [], 0, 0) (I, J, sm_rf t d) := by
  unfold F_Mo_keys at h
  refine sm_W.runL (sm_C_mono D) 3 (G := True) (e := (sd_up I 61 0 (0 : Int32))) (fr' := fun _ => (3, [some (.ref 61), none, none, none, none], [], 0, 0)) (M' := fun I1 => (I1, J, sm_rf t d)) rfl h trivial (fun I1 h => ?_)
  refine sm_W.run (sm_C_mono D) 4 (G := True) (fr' := (7, [some (.ref 61), none, none, none, none], [.int (0 : Int32), .ref 86, .ref 61], 0, 0)) (M' := (I1, J, sm_rf t d)) rfl trivial ?_
  obtain ⟨r2, hc, h⟩ := sd_q1_go h
  refine sm_W.cal (sm_C_mono D) (y := 196) (as := [.ref 61, .ref 86, .int (0 : Int32)]) (fr' := (8, [some (.ref 61), none, none, none, none], [], 0, 0)) rfl (T_Mo_areSo (by omega) (by decide) hc ?_)
  show sm_W sm_sh X (sm_C sm_sh X sm_P D) me_227 Q (8, [some (.ref 61), none, none, none, none], [.int r2], 0, 0) (I1, J, sm_rf t d)
  refine sm_W.run (sm_C_mono D) 3 (G := True) (fr' := (11, [some (.ref 61), some (.int r2), none, none, none], [.int r2, .ref 61], 0, 0)) (M' := (I1, J, sm_rf t d)) rfl trivial ?_
  obtain ⟨r3, hc, h⟩ := sd_q1_go h
  refine sm_W.cal (sm_C_mono D) (y := 202) (as := [.ref 61, .int r2]) (fr' := (12, [some (.ref 61), some (.int r2), none, none, none], [], 0, 0)) rfl (T_Mo_sungBy (by omega) hc ?_)
  show sm_W sm_sh X (sm_C sm_sh X sm_P D) me_227 Q (12, [some (.ref 61), some (.int r2), none, none, none], [.int r3], 0, 0) (I1, J, sm_rf t d)
  obtain ⟨r4, hc, h⟩ := sd_q1_go h
  refine sm_W.cal (sm_C_mono D) (y := 161) (as := [.int r3]) (fr' := (13, [some (.ref 61), some (.int r2), none, none, none], [], 0, 0)) rfl (T_Mo_bits (by omega) hc ?_)
  show sm_W sm_sh X (sm_C sm_sh X sm_P D) me_227 Q (13, [some (.ref 61), some (.int r2), none, none, none], [.int r4], 0, 0) (I1, J, sm_rf t d)
  refine sm_W.run (sm_C_mono D) 5 (G := True) (fr' := (18, [some (.ref 61), some (.int r2), some (.int r4), some (.int (0 : Int32)), some (.int (0 : Int32))], [], 0, 0)) (M' := (I1, J, sm_rf t d)) rfl trivial ?_
  exact (G_Mo_keys_18 hD hQ sd_fu _ _ _ _ _ h)
theorem T_Mo_keys {X : Nat × (Nat → Int32)} {t d D : Nat} {Q : sm_Q} {I : sm_MI} {J : sm_MJ} {rz : Int32} {Iz : sm_MI}
    (hD : 6 ≤ D) (h : F_Mo_keys I = some (rz, Iz)) (hQ : Q (.inl (some (.int rz))) (Iz, J, sm_rf t d)) : sm_C sm_sh X sm_P D 227 [.ref 61] (I, J, sm_rf t d) Q := by
  cases D with
  | zero => omega
  | succ D => exact sm_C.of (me := me_227) (L := [some (.ref 61), none, none, none, none]) rfl rfl rfl (sm_W.forget (L' := [some (.ref 61), none, none, none, none]) ⟨rfl, trivial⟩ (G_Mo_keys (by omega) h hQ))
-- 228 Mo_ransom
noncomputable def F_Mo_ransom_67 (k25 : Int32 → Int32 → Int32 → Int32 → Int32 → sm_MI → Option (Int32 × sm_MI)) (x1 : Int32) (x2 : Int32) (x3 : Int32) (x4 : Int32) (x5 : Int32) (I : sm_MI) : Option (Int32 × sm_MI) :=
  sd_q1 (F_Mo_canBeSung (x2 ||| x5) x1 (0 : Int32) I) fun r1 =>
  if r1 = 0 then
    k25 x1 x2 x3 x4 (x5 + (1 : Int32)) I
  else
    k25 x1 x2 x3 x5 (x5 + (1 : Int32)) I
noncomputable def F_Mo_ransom_25B (k25 : Int32 → Int32 → Int32 → Int32 → Int32 → sm_MI → Option (Int32 × sm_MI)) (x1 : Int32) (x2 : Int32) (x3 : Int32) (x4 : Int32) (x5 : Int32) (I : sm_MI) : Option (Int32 × sm_MI) :=
  if ((1 : Int32) <<< ((I 61 1) &&& 31)) ≤ x5 then
    some (x4, I)
  else
    sd_q1 (F_Mo_ofSide (0 : Int32) I) fun r1 =>
    sd_q1 (F_Mo_bits (x5 &&& r1)) fun r2 =>
    if ¬ (x5 &&& (x3 ^^^ (-1 : Int32))) = 0 then
      k25 x1 x2 x3 x4 (x5 + (1 : Int32)) I
    else
      sd_q1 (F_Mo_ofSide (1 : Int32) I) fun r3 =>
      sd_q1 (F_Mo_bits (x5 &&& r3)) fun r4 =>
      if ¬ r2 = r4 then
        k25 x1 x2 x3 x4 (x5 + (1 : Int32)) I
      else
        sd_q1 (F_Mo_bits x5) fun r5 =>
        if ¬ ((2 : Int32) * r2) = r5 then
          k25 x1 x2 x3 x4 (x5 + (1 : Int32)) I
        else
          if x4 = (-1 : Int32) then
            F_Mo_ransom_67 k25 x1 x2 x3 x4 x5 I
          else
            sd_q1 (F_Mo_bits x5) fun r6 =>
            sd_q1 (F_Mo_bits x4) fun r7 =>
            if r6 < r7 then
              F_Mo_ransom_67 k25 x1 x2 x3 x4 x5 I
            else
              k25 x1 x2 x3 x4 (x5 + (1 : Int32)) I
noncomputable def F_Mo_ransom_25  (n : Nat) : Int32 → Int32 → Int32 → Int32 → Int32 → sm_MI → Option (Int32 × sm_MI) :=
  sd_fix (fun k x1 x2 x3 x4 x5 I => F_Mo_ransom_25B k x1 x2 x3 x4 x5 I) (fun _ _ _ _ _ _ => none) n
noncomputable def F_Mo_ransom (x1 : Int32) (I : sm_MI) : Option (Int32 × sm_MI) :=
  sd_lt (sd_up I 61 0 (0 : Int32)) fun I1 =>
  sd_q2 (F_Mo_isPiece x1 I1) fun r2 I3 =>
  if ¬ r2 = 0 then
    sd_q1 (F_Mo_areSo 86 (0 : Int32) I3) fun r4 =>
    sd_q1 (F_Mo_areSo 86 (1 : Int32) I3) fun r5 =>
    F_Mo_ransom_25 sd_fu x1 r4 r5 (-1 : Int32) (0 : Int32) I3
  else
    some ((0 : Int32), I3)
theorem G_Mo_ransom_67 {X : Nat × (Nat → Int32)} {t d D : Nat} {Q : sm_Q} {I : sm_MI} {J : sm_MJ} {k25 : Int32 → Int32 → Int32 → Int32 → Int32 → sm_MI → Option (Int32 × sm_MI)} {x1 : Int32} {x2 : Int32} {x3 : Int32} {x4 : Int32} {x5 : Int32} {rz : Int32} {Iz : sm_MI}
    (hD : 4 ≤ D) (h : F_Mo_ransom_67 k25 x1 x2 x3 x4 x5 I = some (rz, Iz)) (hQ : Q (.inl (some (.int rz))) (Iz, J, sm_rf t d)) (hk25 : ∀ (x1 : Int32) (x2 : Int32) (x3 : Int32) (x4 : Int32) (x5 : Int32) (I : sm_MI), k25 x1 x2 x3 x4 x5 I = some (rz, Iz) → sm_W sm_sh X (sm_C sm_sh X sm_P D) me_228 Q (25, [some (.ref 61), some (.int x1), some (.int x2), some (.int x3), some (.int x4), some (.int x5), none], [], 0, 0) (I, J, sm_rf t d)) : sm_W sm_sh X (sm_C sm_sh X sm_P D) me_228 Q (67, [some (.ref 61), some (.int x1), some (.int x2), some (.int x3), some (.int x4), some (.int x5), none], [], 0, 0) (I, J, sm_rf t d) := by
  unfold F_Mo_ransom_67 at h
  refine sm_W.run (sm_C_mono D) 6 (G := True) (fr' := (73, [some (.ref 61), some (.int x1), some (.int x2), some (.int x3), some (.int x4), some (.int x5), none], [.int (0 : Int32), .int x1, .int (x2 ||| x5), .ref 61], 0, 0)) (M' := (I, J, sm_rf t d)) rfl trivial ?_
  obtain ⟨r1, hc, h⟩ := sd_q1_go h
  refine sm_W.cal (sm_C_mono D) (y := 201) (as := [.ref 61, .int (x2 ||| x5), .int x1, .int (0 : Int32)]) (fr' := (74, [some (.ref 61), some (.int x1), some (.int x2), some (.int x3), some (.int x4), some (.int x5), none], [], 0, 0)) rfl (T_Mo_canBeSung (by omega) hc ?_)
  show sm_W sm_sh X (sm_C sm_sh X sm_P D) me_228 Q (74, [some (.ref 61), some (.int x1), some (.int x2), some (.int x3), some (.int x4), some (.int x5), none], [.int r1], 0, 0) (I, J, sm_rf t d)
  refine sm_W.run (sm_C_mono D) 1 (G := True) (fr' := (if decide (r1 = 0) = true then 77 else 75, [some (.ref 61), some (.int x1), some (.int x2), some (.int x3), some (.int x4), some (.int x5), none], [], 0, 0)) (M' := (I, J, sm_rf t d)) rfl trivial (sm_W.iteD h (fun hc h => ?_) (fun hc h => ?_))
  · refine sm_W.run (sm_C_mono D) 2 (G := True) (fr' := (25, [some (.ref 61), some (.int x1), some (.int x2), some (.int x3), some (.int x4), some (.int (x5 + (1 : Int32))), none], [], 0, 0)) (M' := (I, J, sm_rf t d)) rfl trivial ?_
    exact (hk25 _ _ _ _ _ _ h)
  · refine sm_W.run (sm_C_mono D) 4 (G := True) (fr' := (25, [some (.ref 61), some (.int x1), some (.int x2), some (.int x3), some (.int x5), some (.int (x5 + (1 : Int32))), none], [], 0, 0)) (M' := (I, J, sm_rf t d)) rfl trivial ?_
    exact (hk25 _ _ _ _ _ _ h)
theorem G_Mo_ransom_25B {X : Nat × (Nat → Int32)} {t d D : Nat} {Q : sm_Q} {I : sm_MI} {J : sm_MJ} {k25 : Int32 → Int32 → Int32 → Int32 → Int32 → sm_MI → Option (Int32 × sm_MI)} {x1 : Int32} {x2 : Int32} {x3 : Int32} {x4 : Int32} {x5 : Int32} {rz : Int32} {Iz : sm_MI}
    (hD : 4 ≤ D) (h : F_Mo_ransom_25B k25 x1 x2 x3 x4 x5 I = some (rz, Iz)) (hQ : Q (.inl (some (.int rz))) (Iz, J, sm_rf t d)) (hk25 : ∀ (x1 : Int32) (x2 : Int32) (x3 : Int32) (x4 : Int32) (x5 : Int32) (I : sm_MI), k25 x1 x2 x3 x4 x5 I = some (rz, Iz) → sm_W sm_sh X (sm_C sm_sh X sm_P D) me_228 Q (25, [some (.ref 61), some (.int x1), some (.int x2), some (.int x3), some (.int x4), some (.int x5), none], [], 0, 0) (I, J, sm_rf t d)) : sm_W sm_sh X (sm_C sm_sh X sm_P D) me_228 Q (25, [some (.ref 61), some (.int x1), some (.int x2), some (.int x3), some (.int x4), some (.int x5), none], [], 0, 0) (I, J, sm_rf t d) := by
  unfold F_Mo_ransom_25B at h
  refine sm_W.run (sm_C_mono D) 6 (G := True) (fr' := (if decide (((1 : Int32) <<< ((I 61 1) &&& 31)) ≤ x5) = true then 79 else 31, [some (.ref 61), some (.int x1), some (.int x2), some (.int x3), some (.int x4), some (.int x5), none], [], 0, 0)) (M' := (I, J, sm_rf t d)) rfl trivial (sm_W.iteD h (fun hc h => ?_) (fun hc h => ?_))
  · refine sm_W.run (sm_C_mono D) 1 (G := True) (fr' := (80, [some (.ref 61), some (.int x1), some (.int x2), some (.int x3), some (.int x4), some (.int x5), none], [.int x4], 0, 0)) (M' := (I, J, sm_rf t d)) rfl trivial ?_
    cases h
    exact sm_W.ret (sm_C_mono D) rfl hQ
  · refine sm_W.run (sm_C_mono D) 3 (G := True) (fr' := (34, [some (.ref 61), some (.int x1), some (.int x2), some (.int x3), some (.int x4), some (.int x5), none], [.int (0 : Int32), .ref 61, .int x5], 0, 0)) (M' := (I, J, sm_rf t d)) rfl trivial ?_
    obtain ⟨r1, hc, h⟩ := sd_q1_go h
    refine sm_W.cal (sm_C_mono D) (y := 197) (as := [.ref 61, .int (0 : Int32)]) (fr' := (35, [some (.ref 61), some (.int x1), some (.int x2), some (.int x3), some (.int x4), some (.int x5), none], [.int x5], 0, 0)) rfl (T_Mo_ofSide (by omega) hc ?_)
    show sm_W sm_sh X (sm_C sm_sh X sm_P D) me_228 Q (35, [some (.ref 61), some (.int x1), some (.int x2), some (.int x3), some (.int x4), some (.int x5), none], [.int r1, .int x5], 0, 0) (I, J, sm_rf t d)
    refine sm_W.run (sm_C_mono D) 1 (G := True) (fr' := (36, [some (.ref 61), some (.int x1), some (.int x2), some (.int x3), some (.int x4), some (.int x5), none], [.int (x5 &&& r1)], 0, 0)) (M' := (I, J, sm_rf t d)) rfl trivial ?_
    obtain ⟨r2, hc, h⟩ := sd_q1_go h
    refine sm_W.cal (sm_C_mono D) (y := 161) (as := [.int (x5 &&& r1)]) (fr' := (37, [some (.ref 61), some (.int x1), some (.int x2), some (.int x3), some (.int x4), some (.int x5), none], [], 0, 0)) rfl (T_Mo_bits (by omega) hc ?_)
    show sm_W sm_sh X (sm_C sm_sh X sm_P D) me_228 Q (37, [some (.ref 61), some (.int x1), some (.int x2), some (.int x3), some (.int x4), some (.int x5), none], [.int r2], 0, 0) (I, J, sm_rf t d)
    refine sm_W.run (sm_C_mono D) 7 (G := True) (fr' := (if decide (¬ (x5 &&& (x3 ^^^ (-1 : Int32))) = 0) = true then 77 else 44, [some (.ref 61), some (.int x1), some (.int x2), some (.int x3), some (.int x4), some (.int x5), some (.int r2)], [], 0, 0)) (M' := (I, J, sm_rf t d)) rfl trivial (sm_W.iteD h (fun hc h => ?_) (fun hc h => ?_))
    · refine sm_W.run (sm_C_mono D) 2 (G := True) (fr' := (25, [some (.ref 61), some (.int x1), some (.int x2), some (.int x3), some (.int x4), some (.int (x5 + (1 : Int32))), some (.int r2)], [], 0, 0)) (M' := (I, J, sm_rf t d)) rfl trivial ?_
      exact sm_W.forget (L' := [some (.ref 61), some (.int x1), some (.int x2), some (.int x3), some (.int x4), some (.int (x5 + (1 : Int32))), none]) ⟨rfl, ⟨rfl, ⟨rfl, ⟨rfl, ⟨rfl, ⟨rfl, trivial⟩⟩⟩⟩⟩⟩ (hk25 _ _ _ _ _ _ h)
    · refine sm_W.run (sm_C_mono D) 4 (G := True) (fr' := (48, [some (.ref 61), some (.int x1), some (.int x2), some (.int x3), some (.int x4), some (.int x5), some (.int r2)], [.int (1 : Int32), .ref 61, .int x5, .int r2], 0, 0)) (M' := (I, J, sm_rf t d)) rfl trivial ?_
      obtain ⟨r3, hc, h⟩ := sd_q1_go h
      refine sm_W.cal (sm_C_mono D) (y := 197) (as := [.ref 61, .int (1 : Int32)]) (fr' := (49, [some (.ref 61), some (.int x1), some (.int x2), some (.int x3), some (.int x4), some (.int x5), some (.int r2)], [.int x5, .int r2], 0, 0)) rfl (T_Mo_ofSide (by omega) hc ?_)
      show sm_W sm_sh X (sm_C sm_sh X sm_P D) me_228 Q (49, [some (.ref 61), some (.int x1), some (.int x2), some (.int x3), some (.int x4), some (.int x5), some (.int r2)], [.int r3, .int x5, .int r2], 0, 0) (I, J, sm_rf t d)
      refine sm_W.run (sm_C_mono D) 1 (G := True) (fr' := (50, [some (.ref 61), some (.int x1), some (.int x2), some (.int x3), some (.int x4), some (.int x5), some (.int r2)], [.int (x5 &&& r3), .int r2], 0, 0)) (M' := (I, J, sm_rf t d)) rfl trivial ?_
      obtain ⟨r4, hc, h⟩ := sd_q1_go h
      refine sm_W.cal (sm_C_mono D) (y := 161) (as := [.int (x5 &&& r3)]) (fr' := (51, [some (.ref 61), some (.int x1), some (.int x2), some (.int x3), some (.int x4), some (.int x5), some (.int r2)], [.int r2], 0, 0)) rfl (T_Mo_bits (by omega) hc ?_)
      show sm_W sm_sh X (sm_C sm_sh X sm_P D) me_228 Q (51, [some (.ref 61), some (.int x1), some (.int x2), some (.int x3), some (.int x4), some (.int x5), some (.int r2)], [.int r4, .int r2], 0, 0) (I, J, sm_rf t d)
      refine sm_W.run (sm_C_mono D) 1 (G := True) (fr' := (if decide (¬ r2 = r4) = true then 77 else 52, [some (.ref 61), some (.int x1), some (.int x2), some (.int x3), some (.int x4), some (.int x5), some (.int r2)], [], 0, 0)) (M' := (I, J, sm_rf t d)) rfl trivial (sm_W.iteD h (fun hc h => ?_) (fun hc h => ?_))
      · refine sm_W.run (sm_C_mono D) 2 (G := True) (fr' := (25, [some (.ref 61), some (.int x1), some (.int x2), some (.int x3), some (.int x4), some (.int (x5 + (1 : Int32))), some (.int r2)], [], 0, 0)) (M' := (I, J, sm_rf t d)) rfl trivial ?_
        exact sm_W.forget (L' := [some (.ref 61), some (.int x1), some (.int x2), some (.int x3), some (.int x4), some (.int (x5 + (1 : Int32))), none]) ⟨rfl, ⟨rfl, ⟨rfl, ⟨rfl, ⟨rfl, ⟨rfl, trivial⟩⟩⟩⟩⟩⟩ (hk25 _ _ _ _ _ _ h)
      · refine sm_W.run (sm_C_mono D) 4 (G := True) (fr' := (56, [some (.ref 61), some (.int x1), some (.int x2), some (.int x3), some (.int x4), some (.int x5), some (.int r2)], [.int x5, .int ((2 : Int32) * r2)], 0, 0)) (M' := (I, J, sm_rf t d)) rfl trivial ?_
        obtain ⟨r5, hc, h⟩ := sd_q1_go h
        refine sm_W.cal (sm_C_mono D) (y := 161) (as := [.int x5]) (fr' := (57, [some (.ref 61), some (.int x1), some (.int x2), some (.int x3), some (.int x4), some (.int x5), some (.int r2)], [.int ((2 : Int32) * r2)], 0, 0)) rfl (T_Mo_bits (by omega) hc ?_)
        show sm_W sm_sh X (sm_C sm_sh X sm_P D) me_228 Q (57, [some (.ref 61), some (.int x1), some (.int x2), some (.int x3), some (.int x4), some (.int x5), some (.int r2)], [.int r5, .int ((2 : Int32) * r2)], 0, 0) (I, J, sm_rf t d)
        refine sm_W.run (sm_C_mono D) 1 (G := True) (fr' := (if decide (¬ ((2 : Int32) * r2) = r5) = true then 77 else 58, [some (.ref 61), some (.int x1), some (.int x2), some (.int x3), some (.int x4), some (.int x5), some (.int r2)], [], 0, 0)) (M' := (I, J, sm_rf t d)) rfl trivial (sm_W.iteD h (fun hc h => ?_) (fun hc h => ?_))
        · refine sm_W.run (sm_C_mono D) 2 (G := True) (fr' := (25, [some (.ref 61), some (.int x1), some (.int x2), some (.int x3), some (.int x4), some (.int (x5 + (1 : Int32))), some (.int r2)], [], 0, 0)) (M' := (I, J, sm_rf t d)) rfl trivial ?_
          exact sm_W.forget (L' := [some (.ref 61), some (.int x1), some (.int x2), some (.int x3), some (.int x4), some (.int (x5 + (1 : Int32))), none]) ⟨rfl, ⟨rfl, ⟨rfl, ⟨rfl, ⟨rfl, ⟨rfl, trivial⟩⟩⟩⟩⟩⟩ (hk25 _ _ _ _ _ _ h)
        · refine sm_W.run (sm_C_mono D) 3 (G := True) (fr' := (if decide (x4 = (-1 : Int32)) = true then 67 else 61, [some (.ref 61), some (.int x1), some (.int x2), some (.int x3), some (.int x4), some (.int x5), some (.int r2)], [], 0, 0)) (M' := (I, J, sm_rf t d)) rfl trivial (sm_W.iteD h (fun hc h => ?_) (fun hc h => ?_))
          · exact sm_W.forget (L' := [some (.ref 61), some (.int x1), some (.int x2), some (.int x3), some (.int x4), some (.int x5), none]) ⟨rfl, ⟨rfl, ⟨rfl, ⟨rfl, ⟨rfl, ⟨rfl, trivial⟩⟩⟩⟩⟩⟩ (G_Mo_ransom_67 hD h hQ hk25)
          · refine sm_W.run (sm_C_mono D) 1 (G := True) (fr' := (62, [some (.ref 61), some (.int x1), some (.int x2), some (.int x3), some (.int x4), some (.int x5), some (.int r2)], [.int x5], 0, 0)) (M' := (I, J, sm_rf t d)) rfl trivial ?_
            obtain ⟨r6, hc, h⟩ := sd_q1_go h
            refine sm_W.cal (sm_C_mono D) (y := 161) (as := [.int x5]) (fr' := (63, [some (.ref 61), some (.int x1), some (.int x2), some (.int x3), some (.int x4), some (.int x5), some (.int r2)], [], 0, 0)) rfl (T_Mo_bits (by omega) hc ?_)
            show sm_W sm_sh X (sm_C sm_sh X sm_P D) me_228 Q (63, [some (.ref 61), some (.int x1), some (.int x2), some (.int x3), some (.int x4), some (.int x5), some (.int r2)], [.int r6], 0, 0) (I, J, sm_rf t d)
            refine sm_W.run (sm_C_mono D) 1 (G := True) (fr' := (64, [some (.ref 61), some (.int x1), some (.int x2), some (.int x3), some (.int x4), some (.int x5), some (.int r2)], [.int x4, .int r6], 0, 0)) (M' := (I, J, sm_rf t d)) rfl trivial ?_
            obtain ⟨r7, hc, h⟩ := sd_q1_go h
            refine sm_W.cal (sm_C_mono D) (y := 161) (as := [.int x4]) (fr' := (65, [some (.ref 61), some (.int x1), some (.int x2), some (.int x3), some (.int x4), some (.int x5), some (.int r2)], [.int r6], 0, 0)) rfl (T_Mo_bits (by omega) hc ?_)
            show sm_W sm_sh X (sm_C sm_sh X sm_P D) me_228 Q (65, [some (.ref 61), some (.int x1), some (.int x2), some (.int x3), some (.int x4), some (.int x5), some (.int r2)], [.int r7, .int r6], 0, 0) (I, J, sm_rf t d)
            refine sm_W.run (sm_C_mono D) 1 (G := True) (fr' := (if decide (r6 < r7) = true then 67 else 66, [some (.ref 61), some (.int x1), some (.int x2), some (.int x3), some (.int x4), some (.int x5), some (.int r2)], [], 0, 0)) (M' := (I, J, sm_rf t d)) rfl trivial (sm_W.iteD h (fun hc h => ?_) (fun hc h => ?_))
            · exact sm_W.forget (L' := [some (.ref 61), some (.int x1), some (.int x2), some (.int x3), some (.int x4), some (.int x5), none]) ⟨rfl, ⟨rfl, ⟨rfl, ⟨rfl, ⟨rfl, ⟨rfl, trivial⟩⟩⟩⟩⟩⟩ (G_Mo_ransom_67 hD h hQ hk25)
            · refine sm_W.run (sm_C_mono D) 3 (G := True) (fr' := (25, [some (.ref 61), some (.int x1), some (.int x2), some (.int x3), some (.int x4), some (.int (x5 + (1 : Int32))), some (.int r2)], [], 0, 0)) (M' := (I, J, sm_rf t d)) rfl trivial ?_
              exact sm_W.forget (L' := [some (.ref 61), some (.int x1), some (.int x2), some (.int x3), some (.int x4), some (.int (x5 + (1 : Int32))), none]) ⟨rfl, ⟨rfl, ⟨rfl, ⟨rfl, ⟨rfl, ⟨rfl, trivial⟩⟩⟩⟩⟩⟩ (hk25 _ _ _ _ _ _ h)
theorem G_Mo_ransom_25 {X : Nat × (Nat → Int32)} {t d D : Nat} {Q : sm_Q} {J : sm_MJ} {rz : Int32} {Iz : sm_MI}
    (hD : 4 ≤ D) (hQ : Q (.inl (some (.int rz))) (Iz, J, sm_rf t d))  : ∀ (n : Nat) (x1 : Int32) (x2 : Int32) (x3 : Int32) (x4 : Int32) (x5 : Int32) (I : sm_MI), F_Mo_ransom_25 n x1 x2 x3 x4 x5 I = some (rz, Iz) → sm_W sm_sh X (sm_C sm_sh X sm_P D) me_228 Q (25, [some (.ref 61), some (.int x1), some (.int x2), some (.int x3), some (.int x4), some (.int x5), none], [], 0, 0) (I, J, sm_rf t d) := by
  intro n
  induction n with
  | zero => intro x1 x2 x3 x4 x5 I h; cases (show (none : Option (Int32 × sm_MI)) = some (rz, Iz) from h)
  | succ n ih => intro x1 x2 x3 x4 x5 I h; exact G_Mo_ransom_25B hD (show F_Mo_ransom_25B (F_Mo_ransom_25 n) x1 x2 x3 x4 x5 I = some (rz, Iz) from h) hQ  ih
theorem G_Mo_ransom {X : Nat × (Nat → Int32)} {t d D : Nat} {Q : sm_Q} {I : sm_MI} {J : sm_MJ} {x1 : Int32} {rz : Int32} {Iz : sm_MI}
    (hD : 4 ≤ D) (h : F_Mo_ransom x1 I = some (rz, Iz)) (hQ : Q (.inl (some (.int rz))) (Iz, J, sm_rf t d))  : sm_W sm_sh X (sm_C sm_sh X sm_P D) me_228 Q (0, [some (.ref 61), some (.int x1), none, none, none, none, none], [], 0, 0) (I, J, sm_rf t d) := by
  unfold F_Mo_ransom at h
  refine sm_W.runL (sm_C_mono D) 3 (G := True) (e := (sd_up I 61 0 (0 : Int32))) (fr' := fun _ => (3, [some (.ref 61), some (.int x1), none, none, none, none, none], [], 0, 0)) (M' := fun I1 => (I1, J, sm_rf t d)) rfl h trivial (fun I1 h => ?_)
  refine sm_W.run (sm_C_mono D) 2 (G := True) (fr' := (5, [some (.ref 61), some (.int x1), none, none, none, none, none], [.int x1, .ref 61], 0, 0)) (M' := (I1, J, sm_rf t d)) rfl trivial ?_
  obtain ⟨r2, I3, hc, h⟩ := sd_q2_go h
  refine sm_W.cal (sm_C_mono D) (y := 205) (as := [.ref 61, .int x1]) (fr' := (6, [some (.ref 61), some (.int x1), none, none, none, none, none], [], 0, 0)) rfl (T_Mo_isPiece (by omega) hc ?_)
  show sm_W sm_sh X (sm_C sm_sh X sm_P D) me_228 Q (6, [some (.ref 61), some (.int x1), none, none, none, none, none], [.int r2], 0, 0) (I3, J, sm_rf t d)
  refine sm_W.run (sm_C_mono D) 1 (G := True) (fr' := (if decide (¬ r2 = 0) = true then 9 else 7, [some (.ref 61), some (.int x1), none, none, none, none, none], [], 0, 0)) (M' := (I3, J, sm_rf t d)) rfl trivial (sm_W.iteD h (fun hc h => ?_) (fun hc h => ?_))
  · refine sm_W.run (sm_C_mono D) 4 (G := True) (fr' := (13, [some (.ref 61), some (.int x1), none, none, none, none, none], [.int (0 : Int32), .ref 86, .ref 61], 0, 0)) (M' := (I3, J, sm_rf t d)) rfl trivial ?_
    obtain ⟨r4, hc, h⟩ := sd_q1_go h
    refine sm_W.cal (sm_C_mono D) (y := 196) (as := [.ref 61, .ref 86, .int (0 : Int32)]) (fr' := (14, [some (.ref 61), some (.int x1), none, none, none, none, none], [], 0, 0)) rfl (T_Mo_areSo (by omega) (by decide) hc ?_)
    show sm_W sm_sh X (sm_C sm_sh X sm_P D) me_228 Q (14, [some (.ref 61), some (.int x1), none, none, none, none, none], [.int r4], 0, 0) (I3, J, sm_rf t d)
    refine sm_W.run (sm_C_mono D) 5 (G := True) (fr' := (19, [some (.ref 61), some (.int x1), some (.int r4), none, none, none, none], [.int (1 : Int32), .ref 86, .ref 61], 0, 0)) (M' := (I3, J, sm_rf t d)) rfl trivial ?_
    obtain ⟨r5, hc, h⟩ := sd_q1_go h
    refine sm_W.cal (sm_C_mono D) (y := 196) (as := [.ref 61, .ref 86, .int (1 : Int32)]) (fr' := (20, [some (.ref 61), some (.int x1), some (.int r4), none, none, none, none], [], 0, 0)) rfl (T_Mo_areSo (by omega) (by decide) hc ?_)
    show sm_W sm_sh X (sm_C sm_sh X sm_P D) me_228 Q (20, [some (.ref 61), some (.int x1), some (.int r4), none, none, none, none], [.int r5], 0, 0) (I3, J, sm_rf t d)
    refine sm_W.run (sm_C_mono D) 5 (G := True) (fr' := (25, [some (.ref 61), some (.int x1), some (.int r4), some (.int r5), some (.int (-1 : Int32)), some (.int (0 : Int32)), none], [], 0, 0)) (M' := (I3, J, sm_rf t d)) rfl trivial ?_
    exact (G_Mo_ransom_25 hD hQ sd_fu _ _ _ _ _ _ h)
  · refine sm_W.run (sm_C_mono D) 1 (G := True) (fr' := (8, [some (.ref 61), some (.int x1), none, none, none, none, none], [.int (0 : Int32)], 0, 0)) (M' := (I3, J, sm_rf t d)) rfl trivial ?_
    cases h
    exact sm_W.ret (sm_C_mono D) rfl hQ
theorem T_Mo_ransom {X : Nat × (Nat → Int32)} {t d D : Nat} {Q : sm_Q} {I : sm_MI} {J : sm_MJ} {x1 : Int32} {rz : Int32} {Iz : sm_MI}
    (hD : 5 ≤ D) (h : F_Mo_ransom x1 I = some (rz, Iz)) (hQ : Q (.inl (some (.int rz))) (Iz, J, sm_rf t d)) : sm_C sm_sh X sm_P D 228 [.ref 61, .int x1] (I, J, sm_rf t d) Q := by
  cases D with
  | zero => omega
  | succ D => exact sm_C.of (me := me_228) (L := [some (.ref 61), some (.int x1), none, none, none, none, none]) rfl rfl rfl (sm_W.forget (L' := [some (.ref 61), some (.int x1), none, none, none, none, none]) ⟨rfl, ⟨rfl, trivial⟩⟩ (G_Mo_ransom (by omega) h hQ))
-- 229 Mo_peace
noncomputable def F_Mo_peace_11B (k11 : Int32 → sm_MI → Option (Int32 × sm_MI)) (x1 : Int32) (I : sm_MI) : Option (Int32 × sm_MI) :=
  if (99 : Int32) ≤ x1 then
    some ((99 : Int32), I)
  else
    sd_q2 (F_Mo_dayGoes 87 I) fun r1 I2 =>
    if r1 ≤ 0 then
      k11 (x1 + (1 : Int32)) I2
    else
      some (x1, I2)
noncomputable def F_Mo_peace_11  (n : Nat) : Int32 → sm_MI → Option (Int32 × sm_MI) :=
  sd_fix (fun k x1 I => F_Mo_peace_11B k x1 I) (fun _ _ => none) n
noncomputable def F_Mo_peace (I : sm_MI) : Option (Int32 × sm_MI) :=
  sd_lt (sd_up I 61 0 (0 : Int32)) fun I1 =>
  sd_q1 (F_Mo_copies 86 87 I1) fun I2 =>
  F_Mo_peace_11 sd_fu (0 : Int32) I2
theorem G_Mo_peace_11B {X : Nat × (Nat → Int32)} {t d D : Nat} {Q : sm_Q} {I : sm_MI} {J : sm_MJ} {k11 : Int32 → sm_MI → Option (Int32 × sm_MI)} {x1 : Int32} {rz : Int32} {Iz : sm_MI}
    (hD : 7 ≤ D) (h : F_Mo_peace_11B k11 x1 I = some (rz, Iz)) (hQ : Q (.inl (some (.int rz))) (Iz, J, sm_rf t d)) (hk11 : ∀ (x1 : Int32) (I : sm_MI), k11 x1 I = some (rz, Iz) → sm_W sm_sh X (sm_C sm_sh X sm_P D) me_229 Q (11, [some (.ref 61), some (.int x1)], [], 0, 0) (I, J, sm_rf t d)) : sm_W sm_sh X (sm_C sm_sh X sm_P D) me_229 Q (11, [some (.ref 61), some (.int x1)], [], 0, 0) (I, J, sm_rf t d) := by
  unfold F_Mo_peace_11B at h
  refine sm_W.run (sm_C_mono D) 3 (G := True) (fr' := (if decide ((99 : Int32) ≤ x1) = true then 23 else 14, [some (.ref 61), some (.int x1)], [], 0, 0)) (M' := (I, J, sm_rf t d)) rfl trivial (sm_W.iteD h (fun hc h => ?_) (fun hc h => ?_))
  · refine sm_W.run (sm_C_mono D) 1 (G := True) (fr' := (24, [some (.ref 61), some (.int x1)], [.int (99 : Int32)], 0, 0)) (M' := (I, J, sm_rf t d)) rfl trivial ?_
    cases h
    exact sm_W.ret (sm_C_mono D) rfl hQ
  · refine sm_W.run (sm_C_mono D) 3 (G := True) (fr' := (17, [some (.ref 61), some (.int x1)], [.ref 87, .ref 61], 0, 0)) (M' := (I, J, sm_rf t d)) rfl trivial ?_
    obtain ⟨r1, I2, hc, h⟩ := sd_q2_go h
    refine sm_W.cal (sm_C_mono D) (y := 216) (as := [.ref 61, .ref 87]) (fr' := (18, [some (.ref 61), some (.int x1)], [], 0, 0)) rfl (T_Mo_dayGoes (by omega) (by decide) hc ?_)
    show sm_W sm_sh X (sm_C sm_sh X sm_P D) me_229 Q (18, [some (.ref 61), some (.int x1)], [.int r1], 0, 0) (I2, J, sm_rf t d)
    refine sm_W.run (sm_C_mono D) 1 (G := True) (fr' := (if decide (r1 ≤ 0) = true then 21 else 19, [some (.ref 61), some (.int x1)], [], 0, 0)) (M' := (I2, J, sm_rf t d)) rfl trivial (sm_W.iteD h (fun hc h => ?_) (fun hc h => ?_))
    · refine sm_W.run (sm_C_mono D) 2 (G := True) (fr' := (11, [some (.ref 61), some (.int (x1 + (1 : Int32)))], [], 0, 0)) (M' := (I2, J, sm_rf t d)) rfl trivial ?_
      exact (hk11 _ _ h)
    · refine sm_W.run (sm_C_mono D) 1 (G := True) (fr' := (20, [some (.ref 61), some (.int x1)], [.int x1], 0, 0)) (M' := (I2, J, sm_rf t d)) rfl trivial ?_
      cases h
      exact sm_W.ret (sm_C_mono D) rfl hQ
theorem G_Mo_peace_11 {X : Nat × (Nat → Int32)} {t d D : Nat} {Q : sm_Q} {J : sm_MJ} {rz : Int32} {Iz : sm_MI}
    (hD : 7 ≤ D) (hQ : Q (.inl (some (.int rz))) (Iz, J, sm_rf t d))  : ∀ (n : Nat) (x1 : Int32) (I : sm_MI), F_Mo_peace_11 n x1 I = some (rz, Iz) → sm_W sm_sh X (sm_C sm_sh X sm_P D) me_229 Q (11, [some (.ref 61), some (.int x1)], [], 0, 0) (I, J, sm_rf t d) := by
  intro n
  induction n with
  | zero => intro x1 I h; cases (show (none : Option (Int32 × sm_MI)) = some (rz, Iz) from h)
  | succ n ih => intro x1 I h; exact G_Mo_peace_11B hD (show F_Mo_peace_11B (F_Mo_peace_11 n) x1 I = some (rz, Iz) from h) hQ  ih
theorem G_Mo_peace {X : Nat × (Nat → Int32)} {t d D : Nat} {Q : sm_Q} {I : sm_MI} {J : sm_MJ} {rz : Int32} {Iz : sm_MI}
    (hD : 7 ≤ D) (h : F_Mo_peace I = some (rz, Iz)) (hQ : Q (.inl (some (.int rz))) (Iz, J, sm_rf t d))  : sm_W sm_sh X (sm_C sm_sh X sm_P D) me_229 Q (0, [some (.ref 61), none], [], 0, 0) (I, J, sm_rf t d) := by
  unfold F_Mo_peace at h
  refine sm_W.runL (sm_C_mono D) 3 (G := True) (e := (sd_up I 61 0 (0 : Int32))) (fr' := fun _ => (3, [some (.ref 61), none], [], 0, 0)) (M' := fun I1 => (I1, J, sm_rf t d)) rfl h trivial (fun I1 h => ?_)
  refine sm_W.run (sm_C_mono D) 5 (G := True) (fr' := (8, [some (.ref 61), none], [.ref 87, .ref 86, .ref 61], 0, 0)) (M' := (I1, J, sm_rf t d)) rfl trivial ?_
  obtain ⟨I2, hc, h⟩ := sd_q1_go h
  refine sm_W.cal (sm_C_mono D) (y := 160) (as := [.ref 61, .ref 86, .ref 87]) (fr' := (9, [some (.ref 61), none], [], 0, 0)) rfl (T_Mo_copies (by omega) (by decide) hc ?_)
  show sm_W sm_sh X (sm_C sm_sh X sm_P D) me_229 Q (9, [some (.ref 61), none], [], 0, 0) (I2, J, sm_rf t d)
  refine sm_W.run (sm_C_mono D) 2 (G := True) (fr' := (11, [some (.ref 61), some (.int (0 : Int32))], [], 0, 0)) (M' := (I2, J, sm_rf t d)) rfl trivial ?_
  exact (G_Mo_peace_11 hD hQ sd_fu _ _ h)
theorem T_Mo_peace {X : Nat × (Nat → Int32)} {t d D : Nat} {Q : sm_Q} {I : sm_MI} {J : sm_MJ} {rz : Int32} {Iz : sm_MI}
    (hD : 8 ≤ D) (h : F_Mo_peace I = some (rz, Iz)) (hQ : Q (.inl (some (.int rz))) (Iz, J, sm_rf t d)) : sm_C sm_sh X sm_P D 229 [.ref 61] (I, J, sm_rf t d) Q := by
  cases D with
  | zero => omega
  | succ D => exact sm_C.of (me := me_229) (L := [some (.ref 61), none]) rfl rfl rfl (sm_W.forget (L' := [some (.ref 61), none]) ⟨rfl, trivial⟩ (G_Mo_peace (by omega) h hQ))
-- 230 Mo_silent
noncomputable def F_Mo_silent_35 (k11 : Int32 → sm_MI → Option (Int32 × sm_MI)) (x1 : Int32) (I : sm_MI) : Option (Int32 × sm_MI) :=
  sd_q2 (F_Mo_dayGoes 87 I) fun r1 I2 =>
  k11 (x1 + (1 : Int32)) I2
noncomputable def F_Mo_silent_11B (k11 : Int32 → sm_MI → Option (Int32 × sm_MI)) (x1 : Int32) (I : sm_MI) : Option (Int32 × sm_MI) :=
  if (99 : Int32) ≤ x1 then
    some ((-1 : Int32), I)
  else
    sd_gu (sm_in (14 : Int32) 16 = true) <|
    sd_gu (¬ (I 61 3) = 0) <|
    if ¬ (sd_mod (I 87 14) (I 61 3)) = 0 then
      F_Mo_silent_35 k11 x1 I
    else
      sd_q1 (F_Mo_areSo 87 (0 : Int32) I) fun r3 =>
      sd_q1 (F_Mo_sungBy r3 I) fun r4 =>
      if ¬ r4 = 0 then
        F_Mo_silent_35 k11 x1 I
      else
        sd_gu (sm_in (14 : Int32) 16 = true) <|
        some ((I 87 14), I)
noncomputable def F_Mo_silent_11  (n : Nat) : Int32 → sm_MI → Option (Int32 × sm_MI) :=
  sd_fix (fun k x1 I => F_Mo_silent_11B k x1 I) (fun _ _ => none) n
noncomputable def F_Mo_silent (I : sm_MI) : Option (Int32 × sm_MI) :=
  sd_lt (sd_up I 61 0 (0 : Int32)) fun I1 =>
  sd_q1 (F_Mo_copies 86 87 I1) fun I2 =>
  F_Mo_silent_11 sd_fu (0 : Int32) I2
theorem G_Mo_silent_35 {X : Nat × (Nat → Int32)} {t d D : Nat} {Q : sm_Q} {I : sm_MI} {J : sm_MJ} {k11 : Int32 → sm_MI → Option (Int32 × sm_MI)} {x1 : Int32} {rz : Int32} {Iz : sm_MI}
    (hD : 7 ≤ D) (h : F_Mo_silent_35 k11 x1 I = some (rz, Iz)) (hQ : Q (.inl (some (.int rz))) (Iz, J, sm_rf t d)) (hk11 : ∀ (x1 : Int32) (I : sm_MI), k11 x1 I = some (rz, Iz) → sm_W sm_sh X (sm_C sm_sh X sm_P D) me_230 Q (11, [some (.ref 61), some (.int x1)], [], 0, 0) (I, J, sm_rf t d)) : sm_W sm_sh X (sm_C sm_sh X sm_P D) me_230 Q (35, [some (.ref 61), some (.int x1)], [], 0, 0) (I, J, sm_rf t d) := by
  unfold F_Mo_silent_35 at h
  refine sm_W.run (sm_C_mono D) 3 (G := True) (fr' := (38, [some (.ref 61), some (.int x1)], [.ref 87, .ref 61], 0, 0)) (M' := (I, J, sm_rf t d)) rfl trivial ?_
  obtain ⟨r1, I2, hc, h⟩ := sd_q2_go h
  refine sm_W.cal (sm_C_mono D) (y := 216) (as := [.ref 61, .ref 87]) (fr' := (39, [some (.ref 61), some (.int x1)], [], 0, 0)) rfl (T_Mo_dayGoes (by omega) (by decide) hc ?_)
  show sm_W sm_sh X (sm_C sm_sh X sm_P D) me_230 Q (39, [some (.ref 61), some (.int x1)], [.int r1], 0, 0) (I2, J, sm_rf t d)
  refine sm_W.run (sm_C_mono D) 3 (G := True) (fr' := (11, [some (.ref 61), some (.int (x1 + (1 : Int32)))], [], 0, 0)) (M' := (I2, J, sm_rf t d)) rfl trivial ?_
  exact (hk11 _ _ h)
theorem G_Mo_silent_11B {X : Nat × (Nat → Int32)} {t d D : Nat} {Q : sm_Q} {I : sm_MI} {J : sm_MJ} {k11 : Int32 → sm_MI → Option (Int32 × sm_MI)} {x1 : Int32} {rz : Int32} {Iz : sm_MI}
    (hD : 7 ≤ D) (h : F_Mo_silent_11B k11 x1 I = some (rz, Iz)) (hQ : Q (.inl (some (.int rz))) (Iz, J, sm_rf t d)) (hk11 : ∀ (x1 : Int32) (I : sm_MI), k11 x1 I = some (rz, Iz) → sm_W sm_sh X (sm_C sm_sh X sm_P D) me_230 Q (11, [some (.ref 61), some (.int x1)], [], 0, 0) (I, J, sm_rf t d)) : sm_W sm_sh X (sm_C sm_sh X sm_P D) me_230 Q (11, [some (.ref 61), some (.int x1)], [], 0, 0) (I, J, sm_rf t d) := by
  unfold F_Mo_silent_11B at h
  refine sm_W.run (sm_C_mono D) 3 (G := True) (fr' := (if decide ((99 : Int32) ≤ x1) = true then 42 else 14, [some (.ref 61), some (.int x1)], [], 0, 0)) (M' := (I, J, sm_rf t d)) rfl trivial (sm_W.iteD h (fun hc h => ?_) (fun hc h => ?_))
  · refine sm_W.run (sm_C_mono D) 1 (G := True) (fr' := (43, [some (.ref 61), some (.int x1)], [.int (-1 : Int32)], 0, 0)) (M' := (I, J, sm_rf t d)) rfl trivial ?_
    cases h
    exact sm_W.ret (sm_C_mono D) rfl hQ
  · obtain ⟨g1, h⟩ := sd_gu_go h
    obtain ⟨g2, h⟩ := sd_gu_go h
    refine sm_W.run (sm_C_mono D) 8 (G := sm_in (14 : Int32) 16 = true ∧ ¬ (I 61 3) = 0 ∧ True) (fr' := (if decide (¬ (sd_mod (I 87 14) (I 61 3)) = 0) = true then 35 else 22, [some (.ref 61), some (.int x1)], [], 0, 0)) (M' := (I, J, sm_rf t d)) rfl ⟨g1, g2, trivial⟩ (sm_W.iteD h (fun hc h => ?_) (fun hc h => ?_))
    · exact (G_Mo_silent_35 hD h hQ hk11)
    · refine sm_W.run (sm_C_mono D) 5 (G := True) (fr' := (27, [some (.ref 61), some (.int x1)], [.int (0 : Int32), .ref 87, .ref 61, .ref 61], 0, 0)) (M' := (I, J, sm_rf t d)) rfl trivial ?_
      obtain ⟨r3, hc, h⟩ := sd_q1_go h
      refine sm_W.cal (sm_C_mono D) (y := 196) (as := [.ref 61, .ref 87, .int (0 : Int32)]) (fr' := (28, [some (.ref 61), some (.int x1)], [.ref 61], 0, 0)) rfl (T_Mo_areSo (by omega) (by decide) hc ?_)
      show sm_W sm_sh X (sm_C sm_sh X sm_P D) me_230 Q (28, [some (.ref 61), some (.int x1)], [.int r3, .ref 61], 0, 0) (I, J, sm_rf t d)
      obtain ⟨r4, hc, h⟩ := sd_q1_go h
      refine sm_W.cal (sm_C_mono D) (y := 202) (as := [.ref 61, .int r3]) (fr' := (29, [some (.ref 61), some (.int x1)], [], 0, 0)) rfl (T_Mo_sungBy (by omega) hc ?_)
      show sm_W sm_sh X (sm_C sm_sh X sm_P D) me_230 Q (29, [some (.ref 61), some (.int x1)], [.int r4], 0, 0) (I, J, sm_rf t d)
      refine sm_W.run (sm_C_mono D) 1 (G := True) (fr' := (if decide (¬ r4 = 0) = true then 35 else 30, [some (.ref 61), some (.int x1)], [], 0, 0)) (M' := (I, J, sm_rf t d)) rfl trivial (sm_W.iteD h (fun hc h => ?_) (fun hc h => ?_))
      · exact (G_Mo_silent_35 hD h hQ hk11)
      · obtain ⟨g5, h⟩ := sd_gu_go h
        refine sm_W.run (sm_C_mono D) 4 (G := sm_in (14 : Int32) 16 = true ∧ True) (fr' := (34, [some (.ref 61), some (.int x1)], [.int (I 87 14)], 0, 0)) (M' := (I, J, sm_rf t d)) rfl ⟨g5, trivial⟩ ?_
        cases h
        exact sm_W.ret (sm_C_mono D) rfl hQ
theorem G_Mo_silent_11 {X : Nat × (Nat → Int32)} {t d D : Nat} {Q : sm_Q} {J : sm_MJ} {rz : Int32} {Iz : sm_MI}
    (hD : 7 ≤ D) (hQ : Q (.inl (some (.int rz))) (Iz, J, sm_rf t d))  : ∀ (n : Nat) (x1 : Int32) (I : sm_MI), F_Mo_silent_11 n x1 I = some (rz, Iz) → sm_W sm_sh X (sm_C sm_sh X sm_P D) me_230 Q (11, [some (.ref 61), some (.int x1)], [], 0, 0) (I, J, sm_rf t d) := by
  intro n
  induction n with
  | zero => intro x1 I h; cases (show (none : Option (Int32 × sm_MI)) = some (rz, Iz) from h)
  | succ n ih => intro x1 I h; exact G_Mo_silent_11B hD (show F_Mo_silent_11B (F_Mo_silent_11 n) x1 I = some (rz, Iz) from h) hQ  ih
theorem G_Mo_silent {X : Nat × (Nat → Int32)} {t d D : Nat} {Q : sm_Q} {I : sm_MI} {J : sm_MJ} {rz : Int32} {Iz : sm_MI}
    (hD : 7 ≤ D) (h : F_Mo_silent I = some (rz, Iz)) (hQ : Q (.inl (some (.int rz))) (Iz, J, sm_rf t d))  : sm_W sm_sh X (sm_C sm_sh X sm_P D) me_230 Q (0, [some (.ref 61), none], [], 0, 0) (I, J, sm_rf t d) := by
  unfold F_Mo_silent at h
  refine sm_W.runL (sm_C_mono D) 3 (G := True) (e := (sd_up I 61 0 (0 : Int32))) (fr' := fun _ => (3, [some (.ref 61), none], [], 0, 0)) (M' := fun I1 => (I1, J, sm_rf t d)) rfl h trivial (fun I1 h => ?_)
  refine sm_W.run (sm_C_mono D) 5 (G := True) (fr' := (8, [some (.ref 61), none], [.ref 87, .ref 86, .ref 61], 0, 0)) (M' := (I1, J, sm_rf t d)) rfl trivial ?_
  obtain ⟨I2, hc, h⟩ := sd_q1_go h
  refine sm_W.cal (sm_C_mono D) (y := 160) (as := [.ref 61, .ref 86, .ref 87]) (fr' := (9, [some (.ref 61), none], [], 0, 0)) rfl (T_Mo_copies (by omega) (by decide) hc ?_)
  show sm_W sm_sh X (sm_C sm_sh X sm_P D) me_230 Q (9, [some (.ref 61), none], [], 0, 0) (I2, J, sm_rf t d)
  refine sm_W.run (sm_C_mono D) 2 (G := True) (fr' := (11, [some (.ref 61), some (.int (0 : Int32))], [], 0, 0)) (M' := (I2, J, sm_rf t d)) rfl trivial ?_
  exact (G_Mo_silent_11 hD hQ sd_fu _ _ h)
theorem T_Mo_silent {X : Nat × (Nat → Int32)} {t d D : Nat} {Q : sm_Q} {I : sm_MI} {J : sm_MJ} {rz : Int32} {Iz : sm_MI}
    (hD : 8 ≤ D) (h : F_Mo_silent I = some (rz, Iz)) (hQ : Q (.inl (some (.int rz))) (Iz, J, sm_rf t d)) : sm_C sm_sh X sm_P D 230 [.ref 61] (I, J, sm_rf t d) Q := by
  cases D with
  | zero => omega
  | succ D => exact sm_C.of (me := me_230) (L := [some (.ref 61), none]) rfl rfl rfl (sm_W.forget (L' := [some (.ref 61), none]) ⟨rfl, trivial⟩ (G_Mo_silent (by omega) h hQ))
-- 231 Mo_falls
noncomputable def F_Mo_falls_23B (k23 : Int32 → Int32 → Int32 → sm_MI → Option (Int32 × sm_MI)) (x1 : Int32) (x2 : Int32) (x3 : Int32) (I : sm_MI) : Option (Int32 × sm_MI) :=
  if x1 ≤ x3 then
    some (x2, I)
  else
    sd_q2 (F_Mo_dayGoes 87 I) fun r1 I2 =>
    sd_lt (x2 + r1) fun a3 =>
    k23 x1 a3 (x3 + (1 : Int32)) I2
noncomputable def F_Mo_falls_23  (n : Nat) : Int32 → Int32 → Int32 → sm_MI → Option (Int32 × sm_MI) :=
  sd_fix (fun k x1 x2 x3 I => F_Mo_falls_23B k x1 x2 x3 I) (fun _ _ _ _ => none) n
noncomputable def F_Mo_falls (x1 : Int32) (I : sm_MI) : Option (Int32 × sm_MI) :=
  sd_lt (sd_up I 61 0 (0 : Int32)) fun I1 =>
  sd_q1 (F_Mo_within x1 (0 : Int32) (99 : Int32)) fun r2 =>
  sd_q2 (F_Mo_right r2 (1 : Int32) I1) fun r3 I4 =>
  if ¬ r3 = 0 then
    sd_q1 (F_Mo_copies 86 87 I4) fun I5 =>
    F_Mo_falls_23 sd_fu x1 (0 : Int32) (0 : Int32) I5
  else
    some ((0 : Int32), I4)
theorem G_Mo_falls_23B {X : Nat × (Nat → Int32)} {t d D : Nat} {Q : sm_Q} {I : sm_MI} {J : sm_MJ} {k23 : Int32 → Int32 → Int32 → sm_MI → Option (Int32 × sm_MI)} {x1 : Int32} {x2 : Int32} {x3 : Int32} {rz : Int32} {Iz : sm_MI}
    (hD : 7 ≤ D) (h : F_Mo_falls_23B k23 x1 x2 x3 I = some (rz, Iz)) (hQ : Q (.inl (some (.int rz))) (Iz, J, sm_rf t d)) (hk23 : ∀ (x1 : Int32) (x2 : Int32) (x3 : Int32) (I : sm_MI), k23 x1 x2 x3 I = some (rz, Iz) → sm_W sm_sh X (sm_C sm_sh X sm_P D) me_231 Q (23, [some (.ref 61), some (.int x1), some (.int x2), some (.int x3)], [], 0, 0) (I, J, sm_rf t d)) : sm_W sm_sh X (sm_C sm_sh X sm_P D) me_231 Q (23, [some (.ref 61), some (.int x1), some (.int x2), some (.int x3)], [], 0, 0) (I, J, sm_rf t d) := by
  unfold F_Mo_falls_23B at h
  refine sm_W.run (sm_C_mono D) 3 (G := True) (fr' := (if decide (x1 ≤ x3) = true then 35 else 26, [some (.ref 61), some (.int x1), some (.int x2), some (.int x3)], [], 0, 0)) (M' := (I, J, sm_rf t d)) rfl trivial (sm_W.iteD h (fun hc h => ?_) (fun hc h => ?_))
  · refine sm_W.run (sm_C_mono D) 1 (G := True) (fr' := (36, [some (.ref 61), some (.int x1), some (.int x2), some (.int x3)], [.int x2], 0, 0)) (M' := (I, J, sm_rf t d)) rfl trivial ?_
    cases h
    exact sm_W.ret (sm_C_mono D) rfl hQ
  · refine sm_W.run (sm_C_mono D) 4 (G := True) (fr' := (30, [some (.ref 61), some (.int x1), some (.int x2), some (.int x3)], [.ref 87, .ref 61, .int x2], 0, 0)) (M' := (I, J, sm_rf t d)) rfl trivial ?_
    obtain ⟨r1, I2, hc, h⟩ := sd_q2_go h
    refine sm_W.cal (sm_C_mono D) (y := 216) (as := [.ref 61, .ref 87]) (fr' := (31, [some (.ref 61), some (.int x1), some (.int x2), some (.int x3)], [.int x2], 0, 0)) rfl (T_Mo_dayGoes (by omega) (by decide) hc ?_)
    show sm_W sm_sh X (sm_C sm_sh X sm_P D) me_231 Q (31, [some (.ref 61), some (.int x1), some (.int x2), some (.int x3)], [.int r1, .int x2], 0, 0) (I2, J, sm_rf t d)
    refine sm_W.runL (sm_C_mono D) 2 (G := True) (e := (x2 + r1)) (fr' := fun a3 => (33, [some (.ref 61), some (.int x1), some (.int a3), some (.int x3)], [], 0, 0)) (M' := fun _ => (I2, J, sm_rf t d)) rfl h trivial (fun a3 h => ?_)
    refine sm_W.run (sm_C_mono D) 2 (G := True) (fr' := (23, [some (.ref 61), some (.int x1), some (.int a3), some (.int (x3 + (1 : Int32)))], [], 0, 0)) (M' := (I2, J, sm_rf t d)) rfl trivial ?_
    exact (hk23 _ _ _ _ h)
theorem G_Mo_falls_23 {X : Nat × (Nat → Int32)} {t d D : Nat} {Q : sm_Q} {J : sm_MJ} {rz : Int32} {Iz : sm_MI}
    (hD : 7 ≤ D) (hQ : Q (.inl (some (.int rz))) (Iz, J, sm_rf t d))  : ∀ (n : Nat) (x1 : Int32) (x2 : Int32) (x3 : Int32) (I : sm_MI), F_Mo_falls_23 n x1 x2 x3 I = some (rz, Iz) → sm_W sm_sh X (sm_C sm_sh X sm_P D) me_231 Q (23, [some (.ref 61), some (.int x1), some (.int x2), some (.int x3)], [], 0, 0) (I, J, sm_rf t d) := by
  intro n
  induction n with
  | zero => intro x1 x2 x3 I h; cases (show (none : Option (Int32 × sm_MI)) = some (rz, Iz) from h)
  | succ n ih => intro x1 x2 x3 I h; exact G_Mo_falls_23B hD (show F_Mo_falls_23B (F_Mo_falls_23 n) x1 x2 x3 I = some (rz, Iz) from h) hQ  ih
theorem G_Mo_falls {X : Nat × (Nat → Int32)} {t d D : Nat} {Q : sm_Q} {I : sm_MI} {J : sm_MJ} {x1 : Int32} {rz : Int32} {Iz : sm_MI}
    (hD : 7 ≤ D) (h : F_Mo_falls x1 I = some (rz, Iz)) (hQ : Q (.inl (some (.int rz))) (Iz, J, sm_rf t d))  : sm_W sm_sh X (sm_C sm_sh X sm_P D) me_231 Q (0, [some (.ref 61), some (.int x1), none, none], [], 0, 0) (I, J, sm_rf t d) := by
  unfold F_Mo_falls at h
  refine sm_W.runL (sm_C_mono D) 3 (G := True) (e := (sd_up I 61 0 (0 : Int32))) (fr' := fun _ => (3, [some (.ref 61), some (.int x1), none, none], [], 0, 0)) (M' := fun I1 => (I1, J, sm_rf t d)) rfl h trivial (fun I1 h => ?_)
  refine sm_W.run (sm_C_mono D) 4 (G := True) (fr' := (7, [some (.ref 61), some (.int x1), none, none], [.int (99 : Int32), .int (0 : Int32), .int x1, .ref 61], 0, 0)) (M' := (I1, J, sm_rf t d)) rfl trivial ?_
  obtain ⟨r2, hc, h⟩ := sd_q1_go h
  refine sm_W.cal (sm_C_mono D) (y := 159) (as := [.int x1, .int (0 : Int32), .int (99 : Int32)]) (fr' := (8, [some (.ref 61), some (.int x1), none, none], [.ref 61], 0, 0)) rfl (T_Mo_within (by omega) hc ?_)
  show sm_W sm_sh X (sm_C sm_sh X sm_P D) me_231 Q (8, [some (.ref 61), some (.int x1), none, none], [.int r2, .ref 61], 0, 0) (I1, J, sm_rf t d)
  refine sm_W.run (sm_C_mono D) 1 (G := True) (fr' := (9, [some (.ref 61), some (.int x1), none, none], [.int (1 : Int32), .int r2, .ref 61], 0, 0)) (M' := (I1, J, sm_rf t d)) rfl trivial ?_
  obtain ⟨r3, I4, hc, h⟩ := sd_q2_go h
  refine sm_W.cal (sm_C_mono D) (y := 158) (as := [.ref 61, .int r2, .int (1 : Int32)]) (fr' := (10, [some (.ref 61), some (.int x1), none, none], [], 0, 0)) rfl (T_Mo_right (by omega) hc ?_)
  show sm_W sm_sh X (sm_C sm_sh X sm_P D) me_231 Q (10, [some (.ref 61), some (.int x1), none, none], [.int r3], 0, 0) (I4, J, sm_rf t d)
  refine sm_W.run (sm_C_mono D) 1 (G := True) (fr' := (if decide (¬ r3 = 0) = true then 13 else 11, [some (.ref 61), some (.int x1), none, none], [], 0, 0)) (M' := (I4, J, sm_rf t d)) rfl trivial (sm_W.iteD h (fun hc h => ?_) (fun hc h => ?_))
  · refine sm_W.run (sm_C_mono D) 5 (G := True) (fr' := (18, [some (.ref 61), some (.int x1), none, none], [.ref 87, .ref 86, .ref 61], 0, 0)) (M' := (I4, J, sm_rf t d)) rfl trivial ?_
    obtain ⟨I5, hc, h⟩ := sd_q1_go h
    refine sm_W.cal (sm_C_mono D) (y := 160) (as := [.ref 61, .ref 86, .ref 87]) (fr' := (19, [some (.ref 61), some (.int x1), none, none], [], 0, 0)) rfl (T_Mo_copies (by omega) (by decide) hc ?_)
    show sm_W sm_sh X (sm_C sm_sh X sm_P D) me_231 Q (19, [some (.ref 61), some (.int x1), none, none], [], 0, 0) (I5, J, sm_rf t d)
    refine sm_W.run (sm_C_mono D) 4 (G := True) (fr' := (23, [some (.ref 61), some (.int x1), some (.int (0 : Int32)), some (.int (0 : Int32))], [], 0, 0)) (M' := (I5, J, sm_rf t d)) rfl trivial ?_
    exact (G_Mo_falls_23 hD hQ sd_fu _ _ _ _ h)
  · refine sm_W.run (sm_C_mono D) 1 (G := True) (fr' := (12, [some (.ref 61), some (.int x1), none, none], [.int (0 : Int32)], 0, 0)) (M' := (I4, J, sm_rf t d)) rfl trivial ?_
    cases h
    exact sm_W.ret (sm_C_mono D) rfl hQ
theorem T_Mo_falls {X : Nat × (Nat → Int32)} {t d D : Nat} {Q : sm_Q} {I : sm_MI} {J : sm_MJ} {x1 : Int32} {rz : Int32} {Iz : sm_MI}
    (hD : 8 ≤ D) (h : F_Mo_falls x1 I = some (rz, Iz)) (hQ : Q (.inl (some (.int rz))) (Iz, J, sm_rf t d)) : sm_C sm_sh X sm_P D 231 [.ref 61, .int x1] (I, J, sm_rf t d) Q := by
  cases D with
  | zero => omega
  | succ D => exact sm_C.of (me := me_231) (L := [some (.ref 61), some (.int x1), none, none]) rfl rfl rfl (sm_W.forget (L' := [some (.ref 61), some (.int x1), none, none]) ⟨rfl, ⟨rfl, trivial⟩⟩ (G_Mo_falls (by omega) h hQ))
-- 232 Mo_areAtOnce
noncomputable def F_Mo_areAtOnce_52B (k43 : Int32 → Int32 → Int32 → Int32 → Option (Int32)) (k52 : Int32 → Int32 → Int32 → Int32 → Int32 → Int32 → Int32 → Option (Int32)) (x1 : Int32) (x2 : Int32) (x3 : Int32) (x4 : Int32) (x5 : Int32) (x6 : Int32) (x7 : Int32) (I : sm_MI) : Option (Int32) :=
  if (I 61 2) ≤ x7 then
    sd_q1 (F_Mo_bits x5) fun r1 =>
    if x6 ≤ r1 then
      k43 x1 x2 x3 (x4 + (1 : Int32))
    else
      some ((0 : Int32))
  else
    if ¬ ((x3 >>> (x7 &&& 31)) &&& (1 : Int32)) = 0 then
      sd_q1 (F_Mo_ableOf x2 (((4 : Int32) * x7) + x4) (0 : Int32) I) fun r2 =>
      sd_lt (x5 ||| r2) fun a3 =>
      sd_gu (sm_in (((4 : Int32) * x7) + x4) 20 = true) <|
      sd_lt (x6 + (I 67 (Int32.toNatClampNeg (((4 : Int32) * x7) + x4)))) fun a5 =>
      k52 x1 x2 x3 x4 a3 a5 (x7 + (1 : Int32))
    else
      k52 x1 x2 x3 x4 x5 x6 (x7 + (1 : Int32))
noncomputable def F_Mo_areAtOnce_52 (k43 : Int32 → Int32 → Int32 → Int32 → Option (Int32)) (I : sm_MI) (n : Nat) : Int32 → Int32 → Int32 → Int32 → Int32 → Int32 → Int32 → Option (Int32) :=
  sd_fix (fun k x1 x2 x3 x4 x5 x6 x7 => F_Mo_areAtOnce_52B k43 k x1 x2 x3 x4 x5 x6 x7 I) (fun _ _ _ _ _ _ _ => none) n
noncomputable def F_Mo_areAtOnce_43B (k31 : Int32 → Int32 → Int32 → Option (Int32)) (k43 : Int32 → Int32 → Int32 → Int32 → Option (Int32)) (x1 : Int32) (x2 : Int32) (x3 : Int32) (x4 : Int32) (I : sm_MI) : Option (Int32) :=
  if (4 : Int32) ≤ x4 then
    k31 x1 x2 (x3 + (1 : Int32))
  else
    F_Mo_areAtOnce_52 k43 I sd_fu x1 x2 x3 x4 (0 : Int32) (0 : Int32) (0 : Int32)
noncomputable def F_Mo_areAtOnce_43 (k31 : Int32 → Int32 → Int32 → Option (Int32)) (I : sm_MI) (n : Nat) : Int32 → Int32 → Int32 → Int32 → Option (Int32) :=
  sd_fix (fun k x1 x2 x3 x4 => F_Mo_areAtOnce_43B k31 k x1 x2 x3 x4 I) (fun _ _ _ _ => none) n
noncomputable def F_Mo_areAtOnce_31B (k31 : Int32 → Int32 → Int32 → Option (Int32)) (x1 : Int32) (x2 : Int32) (x3 : Int32) (I : sm_MI) : Option (Int32) :=
  if x1 < x3 then
    some ((1 : Int32))
  else
    if (x3 &&& (x1 ^^^ (-1 : Int32))) = 0 then
      F_Mo_areAtOnce_43 k31 I sd_fu x1 x2 x3 (0 : Int32)
    else
      k31 x1 x2 (x3 + (1 : Int32))
noncomputable def F_Mo_areAtOnce_31 (I : sm_MI) (n : Nat) : Int32 → Int32 → Int32 → Option (Int32) :=
  sd_fix (fun k x1 x2 x3 => F_Mo_areAtOnce_31B k x1 x2 x3 I) (fun _ _ _ => none) n
noncomputable def F_Mo_areAtOnce_8B (k8 : Int32 → Int32 → Int32 → Option (Int32)) (x1 : Int32) (x2 : Int32) (x3 : Int32) (I : sm_MI) : Option (Int32) :=
  if (I 61 2) ≤ x3 then
    F_Mo_areAtOnce_31 I sd_fu x1 x2 (1 : Int32)
  else
    if ¬ ((x1 >>> (x3 &&& 31)) &&& (1 : Int32)) = (1 : Int32) then
      k8 x1 x2 (x3 + (1 : Int32))
    else
      sd_q1 (F_Mo_canBeSung x2 x3 (0 : Int32) I) fun r1 =>
      if ¬ r1 = 0 then
        k8 x1 x2 (x3 + (1 : Int32))
      else
        some ((0 : Int32))
noncomputable def F_Mo_areAtOnce_8 (I : sm_MI) (n : Nat) : Int32 → Int32 → Int32 → Option (Int32) :=
  sd_fix (fun k x1 x2 x3 => F_Mo_areAtOnce_8B k x1 x2 x3 I) (fun _ _ _ => none) n
noncomputable def F_Mo_areAtOnce (x1 : Int32) (I : sm_MI) : Option (Int32) :=
  sd_q1 (F_Mo_areSo 86 (0 : Int32) I) fun r1 =>
  F_Mo_areAtOnce_8 I sd_fu x1 r1 (0 : Int32)
theorem G_Mo_areAtOnce_52B {X : Nat × (Nat → Int32)} {t d D : Nat} {Q : sm_Q} {I : sm_MI} {J : sm_MJ} {k43 : Int32 → Int32 → Int32 → Int32 → Option (Int32)} {k52 : Int32 → Int32 → Int32 → Int32 → Int32 → Int32 → Int32 → Option (Int32)} {x1 : Int32} {x2 : Int32} {x3 : Int32} {x4 : Int32} {x5 : Int32} {x6 : Int32} {x7 : Int32} {rz : Int32}
    (hD : 4 ≤ D) (h : F_Mo_areAtOnce_52B k43 k52 x1 x2 x3 x4 x5 x6 x7 I = some (rz)) (hQ : Q (.inl (some (.int rz))) (I, J, sm_rf t d)) (hk43 : ∀ (x1 : Int32) (x2 : Int32) (x3 : Int32) (x4 : Int32), k43 x1 x2 x3 x4 = some (rz) → sm_W sm_sh X (sm_C sm_sh X sm_P D) me_232 Q (43, [some (.ref 61), some (.int x1), some (.int x2), some (.int x3), some (.int x4), none, none, none], [], 0, 0) (I, J, sm_rf t d)) (hk52 : ∀ (x1 : Int32) (x2 : Int32) (x3 : Int32) (x4 : Int32) (x5 : Int32) (x6 : Int32) (x7 : Int32), k52 x1 x2 x3 x4 x5 x6 x7 = some (rz) → sm_W sm_sh X (sm_C sm_sh X sm_P D) me_232 Q (52, [some (.ref 61), some (.int x1), some (.int x2), some (.int x3), some (.int x4), some (.int x5), some (.int x6), some (.int x7)], [], 0, 0) (I, J, sm_rf t d)) : sm_W sm_sh X (sm_C sm_sh X sm_P D) me_232 Q (52, [some (.ref 61), some (.int x1), some (.int x2), some (.int x3), some (.int x4), some (.int x5), some (.int x6), some (.int x7)], [], 0, 0) (I, J, sm_rf t d) := by
  unfold F_Mo_areAtOnce_52B at h
  refine sm_W.run (sm_C_mono D) 4 (G := True) (fr' := (if decide ((I 61 2) ≤ x7) = true then 88 else 56, [some (.ref 61), some (.int x1), some (.int x2), some (.int x3), some (.int x4), some (.int x5), some (.int x6), some (.int x7)], [], 0, 0)) (M' := (I, J, sm_rf t d)) rfl trivial (sm_W.iteD h (fun hc h => ?_) (fun hc h => ?_))
  · refine sm_W.run (sm_C_mono D) 1 (G := True) (fr' := (89, [some (.ref 61), some (.int x1), some (.int x2), some (.int x3), some (.int x4), some (.int x5), some (.int x6), some (.int x7)], [.int x5], 0, 0)) (M' := (I, J, sm_rf t d)) rfl trivial ?_
    obtain ⟨r1, hc, h⟩ := sd_q1_go h
    refine sm_W.cal (sm_C_mono D) (y := 161) (as := [.int x5]) (fr' := (90, [some (.ref 61), some (.int x1), some (.int x2), some (.int x3), some (.int x4), some (.int x5), some (.int x6), some (.int x7)], [], 0, 0)) rfl (T_Mo_bits (by omega) hc ?_)
    show sm_W sm_sh X (sm_C sm_sh X sm_P D) me_232 Q (90, [some (.ref 61), some (.int x1), some (.int x2), some (.int x3), some (.int x4), some (.int x5), some (.int x6), some (.int x7)], [.int r1], 0, 0) (I, J, sm_rf t d)
    refine sm_W.run (sm_C_mono D) 2 (G := True) (fr' := (if decide (x6 ≤ r1) = true then 94 else 92, [some (.ref 61), some (.int x1), some (.int x2), some (.int x3), some (.int x4), some (.int x5), some (.int x6), some (.int x7)], [], 0, 0)) (M' := (I, J, sm_rf t d)) rfl trivial (sm_W.iteD h (fun hc h => ?_) (fun hc h => ?_))
    · refine sm_W.run (sm_C_mono D) 2 (G := True) (fr' := (43, [some (.ref 61), some (.int x1), some (.int x2), some (.int x3), some (.int (x4 + (1 : Int32))), some (.int x5), some (.int x6), some (.int x7)], [], 0, 0)) (M' := (I, J, sm_rf t d)) rfl trivial ?_
      exact sm_W.forget (L' := [some (.ref 61), some (.int x1), some (.int x2), some (.int x3), some (.int (x4 + (1 : Int32))), none, none, none]) ⟨rfl, ⟨rfl, ⟨rfl, ⟨rfl, ⟨rfl, trivial⟩⟩⟩⟩⟩ (hk43 _ _ _ _ h)
    · refine sm_W.run (sm_C_mono D) 1 (G := True) (fr' := (93, [some (.ref 61), some (.int x1), some (.int x2), some (.int x3), some (.int x4), some (.int x5), some (.int x6), some (.int x7)], [.int (0 : Int32)], 0, 0)) (M' := (I, J, sm_rf t d)) rfl trivial ?_
      cases h
      exact sm_W.ret (sm_C_mono D) rfl hQ
  · refine sm_W.run (sm_C_mono D) 6 (G := True) (fr' := (if decide (¬ ((x3 >>> (x7 &&& 31)) &&& (1 : Int32)) = 0) = true then 63 else 62, [some (.ref 61), some (.int x1), some (.int x2), some (.int x3), some (.int x4), some (.int x5), some (.int x6), some (.int x7)], [], 0, 0)) (M' := (I, J, sm_rf t d)) rfl trivial (sm_W.iteD h (fun hc h => ?_) (fun hc h => ?_))
    · refine sm_W.run (sm_C_mono D) 9 (G := True) (fr' := (72, [some (.ref 61), some (.int x1), some (.int x2), some (.int x3), some (.int x4), some (.int x5), some (.int x6), some (.int x7)], [.int (0 : Int32), .int (((4 : Int32) * x7) + x4), .int x2, .ref 61, .int x5], 0, 0)) (M' := (I, J, sm_rf t d)) rfl trivial ?_
      obtain ⟨r2, hc, h⟩ := sd_q1_go h
      refine sm_W.cal (sm_C_mono D) (y := 199) (as := [.ref 61, .int x2, .int (((4 : Int32) * x7) + x4), .int (0 : Int32)]) (fr' := (73, [some (.ref 61), some (.int x1), some (.int x2), some (.int x3), some (.int x4), some (.int x5), some (.int x6), some (.int x7)], [.int x5], 0, 0)) rfl (T_Mo_ableOf (by omega) hc ?_)
      show sm_W sm_sh X (sm_C sm_sh X sm_P D) me_232 Q (73, [some (.ref 61), some (.int x1), some (.int x2), some (.int x3), some (.int x4), some (.int x5), some (.int x6), some (.int x7)], [.int r2, .int x5], 0, 0) (I, J, sm_rf t d)
      refine sm_W.runL (sm_C_mono D) 2 (G := True) (e := (x5 ||| r2)) (fr' := fun a3 => (75, [some (.ref 61), some (.int x1), some (.int x2), some (.int x3), some (.int x4), some (.int a3), some (.int x6), some (.int x7)], [], 0, 0)) (M' := fun _ => (I, J, sm_rf t d)) rfl h trivial (fun a3 h => ?_)
      obtain ⟨g4, h⟩ := sd_gu_go h
      refine sm_W.runL (sm_C_mono D) 11 (G := sm_in (((4 : Int32) * x7) + x4) 20 = true ∧ True) (e := (x6 + (I 67 (Int32.toNatClampNeg (((4 : Int32) * x7) + x4))))) (fr' := fun a5 => (86, [some (.ref 61), some (.int x1), some (.int x2), some (.int x3), some (.int x4), some (.int a3), some (.int a5), some (.int x7)], [], 0, 0)) (M' := fun _ => (I, J, sm_rf t d)) rfl h ⟨g4, trivial⟩ (fun a5 h => ?_)
      refine sm_W.run (sm_C_mono D) 2 (G := True) (fr' := (52, [some (.ref 61), some (.int x1), some (.int x2), some (.int x3), some (.int x4), some (.int a3), some (.int a5), some (.int (x7 + (1 : Int32)))], [], 0, 0)) (M' := (I, J, sm_rf t d)) rfl trivial ?_
      exact (hk52 _ _ _ _ _ _ _ h)
    · refine sm_W.run (sm_C_mono D) 3 (G := True) (fr' := (52, [some (.ref 61), some (.int x1), some (.int x2), some (.int x3), some (.int x4), some (.int x5), some (.int x6), some (.int (x7 + (1 : Int32)))], [], 0, 0)) (M' := (I, J, sm_rf t d)) rfl trivial ?_
      exact (hk52 _ _ _ _ _ _ _ h)
theorem G_Mo_areAtOnce_52 {X : Nat × (Nat → Int32)} {t d D : Nat} {Q : sm_Q} {I : sm_MI} {J : sm_MJ} {k43 : Int32 → Int32 → Int32 → Int32 → Option (Int32)} {rz : Int32}
    (hD : 4 ≤ D) (hQ : Q (.inl (some (.int rz))) (I, J, sm_rf t d)) (hk43 : ∀ (x1 : Int32) (x2 : Int32) (x3 : Int32) (x4 : Int32), k43 x1 x2 x3 x4 = some (rz) → sm_W sm_sh X (sm_C sm_sh X sm_P D) me_232 Q (43, [some (.ref 61), some (.int x1), some (.int x2), some (.int x3), some (.int x4), none, none, none], [], 0, 0) (I, J, sm_rf t d)) : ∀ (n : Nat) (x1 : Int32) (x2 : Int32) (x3 : Int32) (x4 : Int32) (x5 : Int32) (x6 : Int32) (x7 : Int32), F_Mo_areAtOnce_52 k43 I n x1 x2 x3 x4 x5 x6 x7 = some (rz) → sm_W sm_sh X (sm_C sm_sh X sm_P D) me_232 Q (52, [some (.ref 61), some (.int x1), some (.int x2), some (.int x3), some (.int x4), some (.int x5), some (.int x6), some (.int x7)], [], 0, 0) (I, J, sm_rf t d) := by
  intro n
  induction n with
  | zero => intro x1 x2 x3 x4 x5 x6 x7 h; cases (show (none : Option (Int32)) = some (rz) from h)
  | succ n ih => intro x1 x2 x3 x4 x5 x6 x7 h; exact G_Mo_areAtOnce_52B hD (show F_Mo_areAtOnce_52B k43 (F_Mo_areAtOnce_52 k43 I n) x1 x2 x3 x4 x5 x6 x7 I = some (rz) from h) hQ hk43 ih
theorem G_Mo_areAtOnce_43B {X : Nat × (Nat → Int32)} {t d D : Nat} {Q : sm_Q} {I : sm_MI} {J : sm_MJ} {k31 : Int32 → Int32 → Int32 → Option (Int32)} {k43 : Int32 → Int32 → Int32 → Int32 → Option (Int32)} {x1 : Int32} {x2 : Int32} {x3 : Int32} {x4 : Int32} {rz : Int32}
    (hD : 4 ≤ D) (h : F_Mo_areAtOnce_43B k31 k43 x1 x2 x3 x4 I = some (rz)) (hQ : Q (.inl (some (.int rz))) (I, J, sm_rf t d)) (hk31 : ∀ (x1 : Int32) (x2 : Int32) (x3 : Int32), k31 x1 x2 x3 = some (rz) → sm_W sm_sh X (sm_C sm_sh X sm_P D) me_232 Q (31, [some (.ref 61), some (.int x1), some (.int x2), some (.int x3), none, none, none, none], [], 0, 0) (I, J, sm_rf t d)) (hk43 : ∀ (x1 : Int32) (x2 : Int32) (x3 : Int32) (x4 : Int32), k43 x1 x2 x3 x4 = some (rz) → sm_W sm_sh X (sm_C sm_sh X sm_P D) me_232 Q (43, [some (.ref 61), some (.int x1), some (.int x2), some (.int x3), some (.int x4), none, none, none], [], 0, 0) (I, J, sm_rf t d)) : sm_W sm_sh X (sm_C sm_sh X sm_P D) me_232 Q (43, [some (.ref 61), some (.int x1), some (.int x2), some (.int x3), some (.int x4), none, none, none], [], 0, 0) (I, J, sm_rf t d) := by
  unfold F_Mo_areAtOnce_43B at h
  refine sm_W.run (sm_C_mono D) 3 (G := True) (fr' := (if decide ((4 : Int32) ≤ x4) = true then 96 else 46, [some (.ref 61), some (.int x1), some (.int x2), some (.int x3), some (.int x4), none, none, none], [], 0, 0)) (M' := (I, J, sm_rf t d)) rfl trivial (sm_W.iteD h (fun hc h => ?_) (fun hc h => ?_))
  · refine sm_W.run (sm_C_mono D) 2 (G := True) (fr' := (31, [some (.ref 61), some (.int x1), some (.int x2), some (.int (x3 + (1 : Int32))), some (.int x4), none, none, none], [], 0, 0)) (M' := (I, J, sm_rf t d)) rfl trivial ?_
    exact sm_W.forget (L' := [some (.ref 61), some (.int x1), some (.int x2), some (.int (x3 + (1 : Int32))), none, none, none, none]) ⟨rfl, ⟨rfl, ⟨rfl, ⟨rfl, trivial⟩⟩⟩⟩ (hk31 _ _ _ h)
  · refine sm_W.run (sm_C_mono D) 6 (G := True) (fr' := (52, [some (.ref 61), some (.int x1), some (.int x2), some (.int x3), some (.int x4), some (.int (0 : Int32)), some (.int (0 : Int32)), some (.int (0 : Int32))], [], 0, 0)) (M' := (I, J, sm_rf t d)) rfl trivial ?_
    exact (G_Mo_areAtOnce_52 hD hQ hk43 sd_fu _ _ _ _ _ _ _ h)
theorem G_Mo_areAtOnce_43 {X : Nat × (Nat → Int32)} {t d D : Nat} {Q : sm_Q} {I : sm_MI} {J : sm_MJ} {k31 : Int32 → Int32 → Int32 → Option (Int32)} {rz : Int32}
    (hD : 4 ≤ D) (hQ : Q (.inl (some (.int rz))) (I, J, sm_rf t d)) (hk31 : ∀ (x1 : Int32) (x2 : Int32) (x3 : Int32), k31 x1 x2 x3 = some (rz) → sm_W sm_sh X (sm_C sm_sh X sm_P D) me_232 Q (31, [some (.ref 61), some (.int x1), some (.int x2), some (.int x3), none, none, none, none], [], 0, 0) (I, J, sm_rf t d)) : ∀ (n : Nat) (x1 : Int32) (x2 : Int32) (x3 : Int32) (x4 : Int32), F_Mo_areAtOnce_43 k31 I n x1 x2 x3 x4 = some (rz) → sm_W sm_sh X (sm_C sm_sh X sm_P D) me_232 Q (43, [some (.ref 61), some (.int x1), some (.int x2), some (.int x3), some (.int x4), none, none, none], [], 0, 0) (I, J, sm_rf t d) := by
  intro n
  induction n with
  | zero => intro x1 x2 x3 x4 h; cases (show (none : Option (Int32)) = some (rz) from h)
  | succ n ih => intro x1 x2 x3 x4 h; exact G_Mo_areAtOnce_43B hD (show F_Mo_areAtOnce_43B k31 (F_Mo_areAtOnce_43 k31 I n) x1 x2 x3 x4 I = some (rz) from h) hQ hk31 ih
theorem G_Mo_areAtOnce_31B {X : Nat × (Nat → Int32)} {t d D : Nat} {Q : sm_Q} {I : sm_MI} {J : sm_MJ} {k31 : Int32 → Int32 → Int32 → Option (Int32)} {x1 : Int32} {x2 : Int32} {x3 : Int32} {rz : Int32}
    (hD : 4 ≤ D) (h : F_Mo_areAtOnce_31B k31 x1 x2 x3 I = some (rz)) (hQ : Q (.inl (some (.int rz))) (I, J, sm_rf t d)) (hk31 : ∀ (x1 : Int32) (x2 : Int32) (x3 : Int32), k31 x1 x2 x3 = some (rz) → sm_W sm_sh X (sm_C sm_sh X sm_P D) me_232 Q (31, [some (.ref 61), some (.int x1), some (.int x2), some (.int x3), none, none, none, none], [], 0, 0) (I, J, sm_rf t d)) : sm_W sm_sh X (sm_C sm_sh X sm_P D) me_232 Q (31, [some (.ref 61), some (.int x1), some (.int x2), some (.int x3), none, none, none, none], [], 0, 0) (I, J, sm_rf t d) := by
  unfold F_Mo_areAtOnce_31B at h
  refine sm_W.run (sm_C_mono D) 3 (G := True) (fr' := (if decide (x1 < x3) = true then 98 else 34, [some (.ref 61), some (.int x1), some (.int x2), some (.int x3), none, none, none, none], [], 0, 0)) (M' := (I, J, sm_rf t d)) rfl trivial (sm_W.iteD h (fun hc h => ?_) (fun hc h => ?_))
  · refine sm_W.run (sm_C_mono D) 1 (G := True) (fr' := (99, [some (.ref 61), some (.int x1), some (.int x2), some (.int x3), none, none, none, none], [.int (1 : Int32)], 0, 0)) (M' := (I, J, sm_rf t d)) rfl trivial ?_
    cases h
    exact sm_W.ret (sm_C_mono D) rfl hQ
  · refine sm_W.run (sm_C_mono D) 6 (G := True) (fr' := (if decide ((x3 &&& (x1 ^^^ (-1 : Int32))) = 0) = true then 41 else 40, [some (.ref 61), some (.int x1), some (.int x2), some (.int x3), none, none, none, none], [], 0, 0)) (M' := (I, J, sm_rf t d)) rfl trivial (sm_W.iteD h (fun hc h => ?_) (fun hc h => ?_))
    · refine sm_W.run (sm_C_mono D) 2 (G := True) (fr' := (43, [some (.ref 61), some (.int x1), some (.int x2), some (.int x3), some (.int (0 : Int32)), none, none, none], [], 0, 0)) (M' := (I, J, sm_rf t d)) rfl trivial ?_
      exact (G_Mo_areAtOnce_43 hD hQ hk31 sd_fu _ _ _ _ h)
    · refine sm_W.run (sm_C_mono D) 3 (G := True) (fr' := (31, [some (.ref 61), some (.int x1), some (.int x2), some (.int (x3 + (1 : Int32))), none, none, none, none], [], 0, 0)) (M' := (I, J, sm_rf t d)) rfl trivial ?_
      exact (hk31 _ _ _ h)
theorem G_Mo_areAtOnce_31 {X : Nat × (Nat → Int32)} {t d D : Nat} {Q : sm_Q} {I : sm_MI} {J : sm_MJ} {rz : Int32}
    (hD : 4 ≤ D) (hQ : Q (.inl (some (.int rz))) (I, J, sm_rf t d))  : ∀ (n : Nat) (x1 : Int32) (x2 : Int32) (x3 : Int32), F_Mo_areAtOnce_31 I n x1 x2 x3 = some (rz) → sm_W sm_sh X (sm_C sm_sh X sm_P D) me_232 Q (31, [some (.ref 61), some (.int x1), some (.int x2), some (.int x3), none, none, none, none], [], 0, 0) (I, J, sm_rf t d) := by
  intro n
  induction n with
  | zero => intro x1 x2 x3 h; cases (show (none : Option (Int32)) = some (rz) from h)
  | succ n ih => intro x1 x2 x3 h; exact G_Mo_areAtOnce_31B hD (show F_Mo_areAtOnce_31B (F_Mo_areAtOnce_31 I n) x1 x2 x3 I = some (rz) from h) hQ  ih
theorem G_Mo_areAtOnce_8B {X : Nat × (Nat → Int32)} {t d D : Nat} {Q : sm_Q} {I : sm_MI} {J : sm_MJ} {k8 : Int32 → Int32 → Int32 → Option (Int32)} {x1 : Int32} {x2 : Int32} {x3 : Int32} {rz : Int32}
    (hD : 4 ≤ D) (h : F_Mo_areAtOnce_8B k8 x1 x2 x3 I = some (rz)) (hQ : Q (.inl (some (.int rz))) (I, J, sm_rf t d)) (hk8 : ∀ (x1 : Int32) (x2 : Int32) (x3 : Int32), k8 x1 x2 x3 = some (rz) → sm_W sm_sh X (sm_C sm_sh X sm_P D) me_232 Q (8, [some (.ref 61), some (.int x1), some (.int x2), some (.int x3), none, none, none, none], [], 0, 0) (I, J, sm_rf t d)) : sm_W sm_sh X (sm_C sm_sh X sm_P D) me_232 Q (8, [some (.ref 61), some (.int x1), some (.int x2), some (.int x3), none, none, none, none], [], 0, 0) (I, J, sm_rf t d) := by
  unfold F_Mo_areAtOnce_8B at h
  refine sm_W.run (sm_C_mono D) 4 (G := True) (fr' := (if decide ((I 61 2) ≤ x3) = true then 29 else 12, [some (.ref 61), some (.int x1), some (.int x2), some (.int x3), none, none, none, none], [], 0, 0)) (M' := (I, J, sm_rf t d)) rfl trivial (sm_W.iteD h (fun hc h => ?_) (fun hc h => ?_))
  · refine sm_W.run (sm_C_mono D) 2 (G := True) (fr' := (31, [some (.ref 61), some (.int x1), some (.int x2), some (.int (1 : Int32)), none, none, none, none], [], 0, 0)) (M' := (I, J, sm_rf t d)) rfl trivial ?_
    exact (G_Mo_areAtOnce_31 hD hQ sd_fu _ _ _ h)
  · refine sm_W.run (sm_C_mono D) 7 (G := True) (fr' := (if decide (¬ ((x1 >>> (x3 &&& 31)) &&& (1 : Int32)) = (1 : Int32)) = true then 27 else 19, [some (.ref 61), some (.int x1), some (.int x2), some (.int x3), none, none, none, none], [], 0, 0)) (M' := (I, J, sm_rf t d)) rfl trivial (sm_W.iteD h (fun hc h => ?_) (fun hc h => ?_))
    · refine sm_W.run (sm_C_mono D) 2 (G := True) (fr' := (8, [some (.ref 61), some (.int x1), some (.int x2), some (.int (x3 + (1 : Int32))), none, none, none, none], [], 0, 0)) (M' := (I, J, sm_rf t d)) rfl trivial ?_
      exact (hk8 _ _ _ h)
    · refine sm_W.run (sm_C_mono D) 4 (G := True) (fr' := (23, [some (.ref 61), some (.int x1), some (.int x2), some (.int x3), none, none, none, none], [.int (0 : Int32), .int x3, .int x2, .ref 61], 0, 0)) (M' := (I, J, sm_rf t d)) rfl trivial ?_
      obtain ⟨r1, hc, h⟩ := sd_q1_go h
      refine sm_W.cal (sm_C_mono D) (y := 201) (as := [.ref 61, .int x2, .int x3, .int (0 : Int32)]) (fr' := (24, [some (.ref 61), some (.int x1), some (.int x2), some (.int x3), none, none, none, none], [], 0, 0)) rfl (T_Mo_canBeSung (by omega) hc ?_)
      show sm_W sm_sh X (sm_C sm_sh X sm_P D) me_232 Q (24, [some (.ref 61), some (.int x1), some (.int x2), some (.int x3), none, none, none, none], [.int r1], 0, 0) (I, J, sm_rf t d)
      refine sm_W.run (sm_C_mono D) 1 (G := True) (fr' := (if decide (¬ r1 = 0) = true then 27 else 25, [some (.ref 61), some (.int x1), some (.int x2), some (.int x3), none, none, none, none], [], 0, 0)) (M' := (I, J, sm_rf t d)) rfl trivial (sm_W.iteD h (fun hc h => ?_) (fun hc h => ?_))
      · refine sm_W.run (sm_C_mono D) 2 (G := True) (fr' := (8, [some (.ref 61), some (.int x1), some (.int x2), some (.int (x3 + (1 : Int32))), none, none, none, none], [], 0, 0)) (M' := (I, J, sm_rf t d)) rfl trivial ?_
        exact (hk8 _ _ _ h)
      · refine sm_W.run (sm_C_mono D) 1 (G := True) (fr' := (26, [some (.ref 61), some (.int x1), some (.int x2), some (.int x3), none, none, none, none], [.int (0 : Int32)], 0, 0)) (M' := (I, J, sm_rf t d)) rfl trivial ?_
        cases h
        exact sm_W.ret (sm_C_mono D) rfl hQ
theorem G_Mo_areAtOnce_8 {X : Nat × (Nat → Int32)} {t d D : Nat} {Q : sm_Q} {I : sm_MI} {J : sm_MJ} {rz : Int32}
    (hD : 4 ≤ D) (hQ : Q (.inl (some (.int rz))) (I, J, sm_rf t d))  : ∀ (n : Nat) (x1 : Int32) (x2 : Int32) (x3 : Int32), F_Mo_areAtOnce_8 I n x1 x2 x3 = some (rz) → sm_W sm_sh X (sm_C sm_sh X sm_P D) me_232 Q (8, [some (.ref 61), some (.int x1), some (.int x2), some (.int x3), none, none, none, none], [], 0, 0) (I, J, sm_rf t d) := by
  intro n
  induction n with
  | zero => intro x1 x2 x3 h; cases (show (none : Option (Int32)) = some (rz) from h)
  | succ n ih => intro x1 x2 x3 h; exact G_Mo_areAtOnce_8B hD (show F_Mo_areAtOnce_8B (F_Mo_areAtOnce_8 I n) x1 x2 x3 I = some (rz) from h) hQ  ih
theorem G_Mo_areAtOnce {X : Nat × (Nat → Int32)} {t d D : Nat} {Q : sm_Q} {I : sm_MI} {J : sm_MJ} {x1 : Int32} {rz : Int32}
    (hD : 4 ≤ D) (h : F_Mo_areAtOnce x1 I = some (rz)) (hQ : Q (.inl (some (.int rz))) (I, J, sm_rf t d))  : sm_W sm_sh X (sm_C sm_sh X sm_P D) me_232 Q (0, [some (.ref 61), some (.int x1), none, none, none, none, none, none], [], 0, 0) (I, J, sm_rf t d) := by
  unfold F_Mo_areAtOnce at h
  refine sm_W.run (sm_C_mono D) 4 (G := True) (fr' := (4, [some (.ref 61), some (.int x1), none, none, none, none, none, none], [.int (0 : Int32), .ref 86, .ref 61], 0, 0)) (M' := (I, J, sm_rf t d)) rfl trivial ?_
  obtain ⟨r1, hc, h⟩ := sd_q1_go h
  refine sm_W.cal (sm_C_mono D) (y := 196) (as := [.ref 61, .ref 86, .int (0 : Int32)]) (fr' := (5, [some (.ref 61), some (.int x1), none, none, none, none, none, none], [], 0, 0)) rfl (T_Mo_areSo (by omega) (by decide) hc ?_)
  show sm_W sm_sh X (sm_C sm_sh X sm_P D) me_232 Q (5, [some (.ref 61), some (.int x1), none, none, none, none, none, none], [.int r1], 0, 0) (I, J, sm_rf t d)
  refine sm_W.run (sm_C_mono D) 3 (G := True) (fr' := (8, [some (.ref 61), some (.int x1), some (.int r1), some (.int (0 : Int32)), none, none, none, none], [], 0, 0)) (M' := (I, J, sm_rf t d)) rfl trivial ?_
  exact (G_Mo_areAtOnce_8 hD hQ sd_fu _ _ _ h)
theorem T_Mo_areAtOnce {X : Nat × (Nat → Int32)} {t d D : Nat} {Q : sm_Q} {I : sm_MI} {J : sm_MJ} {x1 : Int32} {rz : Int32}
    (hD : 5 ≤ D) (h : F_Mo_areAtOnce x1 I = some (rz)) (hQ : Q (.inl (some (.int rz))) (I, J, sm_rf t d)) : sm_C sm_sh X sm_P D 232 [.ref 61, .int x1] (I, J, sm_rf t d) Q := by
  cases D with
  | zero => omega
  | succ D => exact sm_C.of (me := me_232) (L := [some (.ref 61), some (.int x1), none, none, none, none, none, none]) rfl rfl rfl (sm_W.forget (L' := [some (.ref 61), some (.int x1), none, none, none, none, none, none]) ⟨rfl, ⟨rfl, trivial⟩⟩ (G_Mo_areAtOnce (by omega) h hQ))
-- 233 Mo_duet
noncomputable def F_Mo_duet_13B (k5 : Int32 → sm_MI → Option (Int32 × sm_MI)) (k13 : Int32 → Int32 → sm_MI → Option (Int32 × sm_MI)) (x1 : Int32) (x2 : Int32) (I : sm_MI) : Option (Int32 × sm_MI) :=
  if (I 61 2) ≤ x2 then
    k5 (x1 + (1 : Int32)) I
  else
    sd_q1 (F_Mo_areAtOnce (((1 : Int32) <<< (x1 &&& 31)) ||| ((1 : Int32) <<< (x2 &&& 31))) I) fun r1 =>
    if r1 = 0 then
      k13 x1 (x2 + (1 : Int32)) I
    else
      some ((((10 : Int32) * x1) + x2), I)
noncomputable def F_Mo_duet_13 (k5 : Int32 → sm_MI → Option (Int32 × sm_MI)) (n : Nat) : Int32 → Int32 → sm_MI → Option (Int32 × sm_MI) :=
  sd_fix (fun k x1 x2 I => F_Mo_duet_13B k5 k x1 x2 I) (fun _ _ _ => none) n
noncomputable def F_Mo_duet_5B (k5 : Int32 → sm_MI → Option (Int32 × sm_MI)) (x1 : Int32) (I : sm_MI) : Option (Int32 × sm_MI) :=
  if (I 61 2) ≤ x1 then
    some ((-1 : Int32), I)
  else
    sd_lt (x1 + (1 : Int32)) fun a1 =>
    F_Mo_duet_13 k5 sd_fu x1 a1 I
noncomputable def F_Mo_duet_5  (n : Nat) : Int32 → sm_MI → Option (Int32 × sm_MI) :=
  sd_fix (fun k x1 I => F_Mo_duet_5B k x1 I) (fun _ _ => none) n
noncomputable def F_Mo_duet (I : sm_MI) : Option (Int32 × sm_MI) :=
  sd_lt (sd_up I 61 0 (0 : Int32)) fun I1 =>
  F_Mo_duet_5 sd_fu (0 : Int32) I1
theorem G_Mo_duet_13B {X : Nat × (Nat → Int32)} {t d D : Nat} {Q : sm_Q} {I : sm_MI} {J : sm_MJ} {k5 : Int32 → sm_MI → Option (Int32 × sm_MI)} {k13 : Int32 → Int32 → sm_MI → Option (Int32 × sm_MI)} {x1 : Int32} {x2 : Int32} {rz : Int32} {Iz : sm_MI}
    (hD : 5 ≤ D) (h : F_Mo_duet_13B k5 k13 x1 x2 I = some (rz, Iz)) (hQ : Q (.inl (some (.int rz))) (Iz, J, sm_rf t d)) (hk5 : ∀ (x1 : Int32) (I : sm_MI), k5 x1 I = some (rz, Iz) → sm_W sm_sh X (sm_C sm_sh X sm_P D) me_233 Q (5, [some (.ref 61), some (.int x1), none], [], 0, 0) (I, J, sm_rf t d)) (hk13 : ∀ (x1 : Int32) (x2 : Int32) (I : sm_MI), k13 x1 x2 I = some (rz, Iz) → sm_W sm_sh X (sm_C sm_sh X sm_P D) me_233 Q (13, [some (.ref 61), some (.int x1), some (.int x2)], [], 0, 0) (I, J, sm_rf t d)) : sm_W sm_sh X (sm_C sm_sh X sm_P D) me_233 Q (13, [some (.ref 61), some (.int x1), some (.int x2)], [], 0, 0) (I, J, sm_rf t d) := by
  unfold F_Mo_duet_13B at h
  refine sm_W.run (sm_C_mono D) 4 (G := True) (fr' := (if decide ((I 61 2) ≤ x2) = true then 35 else 17, [some (.ref 61), some (.int x1), some (.int x2)], [], 0, 0)) (M' := (I, J, sm_rf t d)) rfl trivial (sm_W.iteD h (fun hc h => ?_) (fun hc h => ?_))
  · refine sm_W.run (sm_C_mono D) 2 (G := True) (fr' := (5, [some (.ref 61), some (.int (x1 + (1 : Int32))), some (.int x2)], [], 0, 0)) (M' := (I, J, sm_rf t d)) rfl trivial ?_
    exact sm_W.forget (L' := [some (.ref 61), some (.int (x1 + (1 : Int32))), none]) ⟨rfl, ⟨rfl, trivial⟩⟩ (hk5 _ _ h)
  · refine sm_W.run (sm_C_mono D) 8 (G := True) (fr' := (25, [some (.ref 61), some (.int x1), some (.int x2)], [.int (((1 : Int32) <<< (x1 &&& 31)) ||| ((1 : Int32) <<< (x2 &&& 31))), .ref 61], 0, 0)) (M' := (I, J, sm_rf t d)) rfl trivial ?_
    obtain ⟨r1, hc, h⟩ := sd_q1_go h
    refine sm_W.cal (sm_C_mono D) (y := 232) (as := [.ref 61, .int (((1 : Int32) <<< (x1 &&& 31)) ||| ((1 : Int32) <<< (x2 &&& 31)))]) (fr' := (26, [some (.ref 61), some (.int x1), some (.int x2)], [], 0, 0)) rfl (T_Mo_areAtOnce (by omega) hc ?_)
    show sm_W sm_sh X (sm_C sm_sh X sm_P D) me_233 Q (26, [some (.ref 61), some (.int x1), some (.int x2)], [.int r1], 0, 0) (I, J, sm_rf t d)
    refine sm_W.run (sm_C_mono D) 1 (G := True) (fr' := (if decide (r1 = 0) = true then 33 else 27, [some (.ref 61), some (.int x1), some (.int x2)], [], 0, 0)) (M' := (I, J, sm_rf t d)) rfl trivial (sm_W.iteD h (fun hc h => ?_) (fun hc h => ?_))
    · refine sm_W.run (sm_C_mono D) 2 (G := True) (fr' := (13, [some (.ref 61), some (.int x1), some (.int (x2 + (1 : Int32)))], [], 0, 0)) (M' := (I, J, sm_rf t d)) rfl trivial ?_
      exact (hk13 _ _ _ h)
    · refine sm_W.run (sm_C_mono D) 5 (G := True) (fr' := (32, [some (.ref 61), some (.int x1), some (.int x2)], [.int (((10 : Int32) * x1) + x2)], 0, 0)) (M' := (I, J, sm_rf t d)) rfl trivial ?_
      cases h
      exact sm_W.ret (sm_C_mono D) rfl hQ
theorem G_Mo_duet_13 {X : Nat × (Nat → Int32)} {t d D : Nat} {Q : sm_Q} {J : sm_MJ} {k5 : Int32 → sm_MI → Option (Int32 × sm_MI)} {rz : Int32} {Iz : sm_MI}
    (hD : 5 ≤ D) (hQ : Q (.inl (some (.int rz))) (Iz, J, sm_rf t d)) (hk5 : ∀ (x1 : Int32) (I : sm_MI), k5 x1 I = some (rz, Iz) → sm_W sm_sh X (sm_C sm_sh X sm_P D) me_233 Q (5, [some (.ref 61), some (.int x1), none], [], 0, 0) (I, J, sm_rf t d)) : ∀ (n : Nat) (x1 : Int32) (x2 : Int32) (I : sm_MI), F_Mo_duet_13 k5 n x1 x2 I = some (rz, Iz) → sm_W sm_sh X (sm_C sm_sh X sm_P D) me_233 Q (13, [some (.ref 61), some (.int x1), some (.int x2)], [], 0, 0) (I, J, sm_rf t d) := by
  intro n
  induction n with
  | zero => intro x1 x2 I h; cases (show (none : Option (Int32 × sm_MI)) = some (rz, Iz) from h)
  | succ n ih => intro x1 x2 I h; exact G_Mo_duet_13B hD (show F_Mo_duet_13B k5 (F_Mo_duet_13 k5 n) x1 x2 I = some (rz, Iz) from h) hQ hk5 ih
theorem G_Mo_duet_5B {X : Nat × (Nat → Int32)} {t d D : Nat} {Q : sm_Q} {I : sm_MI} {J : sm_MJ} {k5 : Int32 → sm_MI → Option (Int32 × sm_MI)} {x1 : Int32} {rz : Int32} {Iz : sm_MI}
    (hD : 5 ≤ D) (h : F_Mo_duet_5B k5 x1 I = some (rz, Iz)) (hQ : Q (.inl (some (.int rz))) (Iz, J, sm_rf t d)) (hk5 : ∀ (x1 : Int32) (I : sm_MI), k5 x1 I = some (rz, Iz) → sm_W sm_sh X (sm_C sm_sh X sm_P D) me_233 Q (5, [some (.ref 61), some (.int x1), none], [], 0, 0) (I, J, sm_rf t d)) : sm_W sm_sh X (sm_C sm_sh X sm_P D) me_233 Q (5, [some (.ref 61), some (.int x1), none], [], 0, 0) (I, J, sm_rf t d) := by
  unfold F_Mo_duet_5B at h
  refine sm_W.run (sm_C_mono D) 4 (G := True) (fr' := (if decide ((I 61 2) ≤ x1) = true then 37 else 9, [some (.ref 61), some (.int x1), none], [], 0, 0)) (M' := (I, J, sm_rf t d)) rfl trivial (sm_W.iteD h (fun hc h => ?_) (fun hc h => ?_))
  · refine sm_W.run (sm_C_mono D) 1 (G := True) (fr' := (38, [some (.ref 61), some (.int x1), none], [.int (-1 : Int32)], 0, 0)) (M' := (I, J, sm_rf t d)) rfl trivial ?_
    cases h
    exact sm_W.ret (sm_C_mono D) rfl hQ
  · refine sm_W.runL (sm_C_mono D) 4 (G := True) (e := (x1 + (1 : Int32))) (fr' := fun a1 => (13, [some (.ref 61), some (.int x1), some (.int a1)], [], 0, 0)) (M' := fun _ => (I, J, sm_rf t d)) rfl h trivial (fun a1 h => ?_)
    exact (G_Mo_duet_13 hD hQ hk5 sd_fu _ _ _ h)
theorem G_Mo_duet_5 {X : Nat × (Nat → Int32)} {t d D : Nat} {Q : sm_Q} {J : sm_MJ} {rz : Int32} {Iz : sm_MI}
    (hD : 5 ≤ D) (hQ : Q (.inl (some (.int rz))) (Iz, J, sm_rf t d))  : ∀ (n : Nat) (x1 : Int32) (I : sm_MI), F_Mo_duet_5 n x1 I = some (rz, Iz) → sm_W sm_sh X (sm_C sm_sh X sm_P D) me_233 Q (5, [some (.ref 61), some (.int x1), none], [], 0, 0) (I, J, sm_rf t d) := by
  intro n
  induction n with
  | zero => intro x1 I h; cases (show (none : Option (Int32 × sm_MI)) = some (rz, Iz) from h)
  | succ n ih => intro x1 I h; exact G_Mo_duet_5B hD (show F_Mo_duet_5B (F_Mo_duet_5 n) x1 I = some (rz, Iz) from h) hQ  ih
theorem G_Mo_duet {X : Nat × (Nat → Int32)} {t d D : Nat} {Q : sm_Q} {I : sm_MI} {J : sm_MJ} {rz : Int32} {Iz : sm_MI}
    (hD : 5 ≤ D) (h : F_Mo_duet I = some (rz, Iz)) (hQ : Q (.inl (some (.int rz))) (Iz, J, sm_rf t d))  : sm_W sm_sh X (sm_C sm_sh X sm_P D) me_233 Q (0, [some (.ref 61), none, none], [], 0, 0) (I, J, sm_rf t d) := by
  unfold F_Mo_duet at h
  refine sm_W.runL (sm_C_mono D) 3 (G := True) (e := (sd_up I 61 0 (0 : Int32))) (fr' := fun _ => (3, [some (.ref 61), none, none], [], 0, 0)) (M' := fun I1 => (I1, J, sm_rf t d)) rfl h trivial (fun I1 h => ?_)
  refine sm_W.run (sm_C_mono D) 2 (G := True) (fr' := (5, [some (.ref 61), some (.int (0 : Int32)), none], [], 0, 0)) (M' := (I1, J, sm_rf t d)) rfl trivial ?_
  exact (G_Mo_duet_5 hD hQ sd_fu _ _ h)
theorem T_Mo_duet {X : Nat × (Nat → Int32)} {t d D : Nat} {Q : sm_Q} {I : sm_MI} {J : sm_MJ} {rz : Int32} {Iz : sm_MI}
    (hD : 6 ≤ D) (h : F_Mo_duet I = some (rz, Iz)) (hQ : Q (.inl (some (.int rz))) (Iz, J, sm_rf t d)) : sm_C sm_sh X sm_P D 233 [.ref 61] (I, J, sm_rf t d) Q := by
  cases D with
  | zero => omega
  | succ D => exact sm_C.of (me := me_233) (L := [some (.ref 61), none, none]) rfl rfl rfl (sm_W.forget (L' := [some (.ref 61), none, none]) ⟨rfl, trivial⟩ (G_Mo_duet (by omega) h hQ))
-- 234 Mo_evening
noncomputable def F_Mo_evening_7B (k7 : Int32 → Int32 → sm_MI → Option (Int32 × sm_MI)) (x1 : Int32) (x2 : Int32) (I : sm_MI) : Option (Int32 × sm_MI) :=
  if ((1 : Int32) <<< ((I 61 2) &&& 31)) ≤ x2 then
    some (x1, I)
  else
    sd_q1 (F_Mo_bits x2) fun r1 =>
    sd_q1 (F_Mo_bits x1) fun r2 =>
    if r1 ≤ r2 then
      k7 x1 (x2 + (1 : Int32)) I
    else
      sd_q1 (F_Mo_areAtOnce x2 I) fun r3 =>
      if r3 = 0 then
        k7 x1 (x2 + (1 : Int32)) I
      else
        k7 x2 (x2 + (1 : Int32)) I
noncomputable def F_Mo_evening_7  (n : Nat) : Int32 → Int32 → sm_MI → Option (Int32 × sm_MI) :=
  sd_fix (fun k x1 x2 I => F_Mo_evening_7B k x1 x2 I) (fun _ _ _ => none) n
noncomputable def F_Mo_evening (I : sm_MI) : Option (Int32 × sm_MI) :=
  sd_lt (sd_up I 61 0 (0 : Int32)) fun I1 =>
  F_Mo_evening_7 sd_fu (0 : Int32) (1 : Int32) I1
theorem G_Mo_evening_7B {X : Nat × (Nat → Int32)} {t d D : Nat} {Q : sm_Q} {I : sm_MI} {J : sm_MJ} {k7 : Int32 → Int32 → sm_MI → Option (Int32 × sm_MI)} {x1 : Int32} {x2 : Int32} {rz : Int32} {Iz : sm_MI}
    (hD : 5 ≤ D) (h : F_Mo_evening_7B k7 x1 x2 I = some (rz, Iz)) (hQ : Q (.inl (some (.int rz))) (Iz, J, sm_rf t d)) (hk7 : ∀ (x1 : Int32) (x2 : Int32) (I : sm_MI), k7 x1 x2 I = some (rz, Iz) → sm_W sm_sh X (sm_C sm_sh X sm_P D) me_234 Q (7, [some (.ref 61), some (.int x1), some (.int x2)], [], 0, 0) (I, J, sm_rf t d)) : sm_W sm_sh X (sm_C sm_sh X sm_P D) me_234 Q (7, [some (.ref 61), some (.int x1), some (.int x2)], [], 0, 0) (I, J, sm_rf t d) := by
  unfold F_Mo_evening_7B at h
  refine sm_W.run (sm_C_mono D) 6 (G := True) (fr' := (if decide (((1 : Int32) <<< ((I 61 2) &&& 31)) ≤ x2) = true then 26 else 13, [some (.ref 61), some (.int x1), some (.int x2)], [], 0, 0)) (M' := (I, J, sm_rf t d)) rfl trivial (sm_W.iteD h (fun hc h => ?_) (fun hc h => ?_))
  · refine sm_W.run (sm_C_mono D) 1 (G := True) (fr' := (27, [some (.ref 61), some (.int x1), some (.int x2)], [.int x1], 0, 0)) (M' := (I, J, sm_rf t d)) rfl trivial ?_
    cases h
    exact sm_W.ret (sm_C_mono D) rfl hQ
  · refine sm_W.run (sm_C_mono D) 1 (G := True) (fr' := (14, [some (.ref 61), some (.int x1), some (.int x2)], [.int x2], 0, 0)) (M' := (I, J, sm_rf t d)) rfl trivial ?_
    obtain ⟨r1, hc, h⟩ := sd_q1_go h
    refine sm_W.cal (sm_C_mono D) (y := 161) (as := [.int x2]) (fr' := (15, [some (.ref 61), some (.int x1), some (.int x2)], [], 0, 0)) rfl (T_Mo_bits (by omega) hc ?_)
    show sm_W sm_sh X (sm_C sm_sh X sm_P D) me_234 Q (15, [some (.ref 61), some (.int x1), some (.int x2)], [.int r1], 0, 0) (I, J, sm_rf t d)
    refine sm_W.run (sm_C_mono D) 1 (G := True) (fr' := (16, [some (.ref 61), some (.int x1), some (.int x2)], [.int x1, .int r1], 0, 0)) (M' := (I, J, sm_rf t d)) rfl trivial ?_
    obtain ⟨r2, hc, h⟩ := sd_q1_go h
    refine sm_W.cal (sm_C_mono D) (y := 161) (as := [.int x1]) (fr' := (17, [some (.ref 61), some (.int x1), some (.int x2)], [.int r1], 0, 0)) rfl (T_Mo_bits (by omega) hc ?_)
    show sm_W sm_sh X (sm_C sm_sh X sm_P D) me_234 Q (17, [some (.ref 61), some (.int x1), some (.int x2)], [.int r2, .int r1], 0, 0) (I, J, sm_rf t d)
    refine sm_W.run (sm_C_mono D) 1 (G := True) (fr' := (if decide (r1 ≤ r2) = true then 24 else 18, [some (.ref 61), some (.int x1), some (.int x2)], [], 0, 0)) (M' := (I, J, sm_rf t d)) rfl trivial (sm_W.iteD h (fun hc h => ?_) (fun hc h => ?_))
    · refine sm_W.run (sm_C_mono D) 2 (G := True) (fr' := (7, [some (.ref 61), some (.int x1), some (.int (x2 + (1 : Int32)))], [], 0, 0)) (M' := (I, J, sm_rf t d)) rfl trivial ?_
      exact (hk7 _ _ _ h)
    · refine sm_W.run (sm_C_mono D) 2 (G := True) (fr' := (20, [some (.ref 61), some (.int x1), some (.int x2)], [.int x2, .ref 61], 0, 0)) (M' := (I, J, sm_rf t d)) rfl trivial ?_
      obtain ⟨r3, hc, h⟩ := sd_q1_go h
      refine sm_W.cal (sm_C_mono D) (y := 232) (as := [.ref 61, .int x2]) (fr' := (21, [some (.ref 61), some (.int x1), some (.int x2)], [], 0, 0)) rfl (T_Mo_areAtOnce (by omega) hc ?_)
      show sm_W sm_sh X (sm_C sm_sh X sm_P D) me_234 Q (21, [some (.ref 61), some (.int x1), some (.int x2)], [.int r3], 0, 0) (I, J, sm_rf t d)
      refine sm_W.run (sm_C_mono D) 1 (G := True) (fr' := (if decide (r3 = 0) = true then 24 else 22, [some (.ref 61), some (.int x1), some (.int x2)], [], 0, 0)) (M' := (I, J, sm_rf t d)) rfl trivial (sm_W.iteD h (fun hc h => ?_) (fun hc h => ?_))
      · refine sm_W.run (sm_C_mono D) 2 (G := True) (fr' := (7, [some (.ref 61), some (.int x1), some (.int (x2 + (1 : Int32)))], [], 0, 0)) (M' := (I, J, sm_rf t d)) rfl trivial ?_
        exact (hk7 _ _ _ h)
      · refine sm_W.run (sm_C_mono D) 4 (G := True) (fr' := (7, [some (.ref 61), some (.int x2), some (.int (x2 + (1 : Int32)))], [], 0, 0)) (M' := (I, J, sm_rf t d)) rfl trivial ?_
        exact (hk7 _ _ _ h)
theorem G_Mo_evening_7 {X : Nat × (Nat → Int32)} {t d D : Nat} {Q : sm_Q} {J : sm_MJ} {rz : Int32} {Iz : sm_MI}
    (hD : 5 ≤ D) (hQ : Q (.inl (some (.int rz))) (Iz, J, sm_rf t d))  : ∀ (n : Nat) (x1 : Int32) (x2 : Int32) (I : sm_MI), F_Mo_evening_7 n x1 x2 I = some (rz, Iz) → sm_W sm_sh X (sm_C sm_sh X sm_P D) me_234 Q (7, [some (.ref 61), some (.int x1), some (.int x2)], [], 0, 0) (I, J, sm_rf t d) := by
  intro n
  induction n with
  | zero => intro x1 x2 I h; cases (show (none : Option (Int32 × sm_MI)) = some (rz, Iz) from h)
  | succ n ih => intro x1 x2 I h; exact G_Mo_evening_7B hD (show F_Mo_evening_7B (F_Mo_evening_7 n) x1 x2 I = some (rz, Iz) from h) hQ  ih
theorem G_Mo_evening {X : Nat × (Nat → Int32)} {t d D : Nat} {Q : sm_Q} {I : sm_MI} {J : sm_MJ} {rz : Int32} {Iz : sm_MI}
    (hD : 5 ≤ D) (h : F_Mo_evening I = some (rz, Iz)) (hQ : Q (.inl (some (.int rz))) (Iz, J, sm_rf t d))  : sm_W sm_sh X (sm_C sm_sh X sm_P D) me_234 Q (0, [some (.ref 61), none, none], [], 0, 0) (I, J, sm_rf t d) := by
  unfold F_Mo_evening at h
  refine sm_W.runL (sm_C_mono D) 3 (G := True) (e := (sd_up I 61 0 (0 : Int32))) (fr' := fun _ => (3, [some (.ref 61), none, none], [], 0, 0)) (M' := fun I1 => (I1, J, sm_rf t d)) rfl h trivial (fun I1 h => ?_)
  refine sm_W.run (sm_C_mono D) 4 (G := True) (fr' := (7, [some (.ref 61), some (.int (0 : Int32)), some (.int (1 : Int32))], [], 0, 0)) (M' := (I1, J, sm_rf t d)) rfl trivial ?_
  exact (G_Mo_evening_7 hD hQ sd_fu _ _ _ h)
theorem T_Mo_evening {X : Nat × (Nat → Int32)} {t d D : Nat} {Q : sm_Q} {I : sm_MI} {J : sm_MJ} {rz : Int32} {Iz : sm_MI}
    (hD : 6 ≤ D) (h : F_Mo_evening I = some (rz, Iz)) (hQ : Q (.inl (some (.int rz))) (Iz, J, sm_rf t d)) : sm_C sm_sh X sm_P D 234 [.ref 61] (I, J, sm_rf t d) Q := by
  cases D with
  | zero => omega
  | succ D => exact sm_C.of (me := me_234) (L := [some (.ref 61), none, none]) rfl rfl rfl (sm_W.forget (L' := [some (.ref 61), none, none]) ⟨rfl, trivial⟩ (G_Mo_evening (by omega) h hQ))
-- 235 Mo_cast
noncomputable def F_Mo_cast_61B (k51 : Int32 → Int32 → Int32 → Int32 → Int32 → Int32 → Int32 → Int32 → sm_MI → Option (Int32 × sm_MI)) (k61 : Int32 → Int32 → Int32 → Int32 → Int32 → Int32 → Int32 → Int32 → Int32 → Int32 → sm_MI → Option (Int32 × sm_MI)) (x1 : Int32) (x2 : Int32) (x3 : Int32) (x4 : Int32) (x5 : Int32) (x6 : Int32) (x7 : Int32) (x8 : Int32) (x9 : Int32) (x10 : Int32) (I : sm_MI) : Option (Int32 × sm_MI) :=
  if (I 61 1) ≤ x10 then
    sd_lt (x7 &&& (((1 : Int32) <<< (x9 &&& 31)) ^^^ (-1 : Int32))) fun a1 =>
    sd_lt (x4 ||| ((1 : Int32) <<< (x9 &&& 31))) fun a2 =>
    sd_gu (sm_in x9 14 = true) <|
    sd_lt (x5 + (I 66 (Int32.toNatClampNeg x9))) fun a4 =>
    k51 x1 x2 x3 a2 a4 x6 a1 (x8 + (1 : Int32)) I
  else
    if ¬ ((x7 >>> (x10 &&& 31)) &&& (1 : Int32)) = (1 : Int32) then
      k61 x1 x2 x3 x4 x5 x6 x7 x8 x9 (x10 + (1 : Int32)) I
    else
      if x9 = (-1 : Int32) then
        k61 x1 x2 x3 x4 x5 x6 x7 x8 x10 (x10 + (1 : Int32)) I
      else
        sd_gu (sm_in x10 14 = true) <|
        sd_gu (sm_in x9 14 = true) <|
        if (I 66 (Int32.toNatClampNeg x10)) ≤ (I 66 (Int32.toNatClampNeg x9)) then
          k61 x1 x2 x3 x4 x5 x6 x7 x8 x9 (x10 + (1 : Int32)) I
        else
          k61 x1 x2 x3 x4 x5 x6 x7 x8 x10 (x10 + (1 : Int32)) I
noncomputable def F_Mo_cast_61 (k51 : Int32 → Int32 → Int32 → Int32 → Int32 → Int32 → Int32 → Int32 → sm_MI → Option (Int32 × sm_MI)) (n : Nat) : Int32 → Int32 → Int32 → Int32 → Int32 → Int32 → Int32 → Int32 → Int32 → Int32 → sm_MI → Option (Int32 × sm_MI) :=
  sd_fix (fun k x1 x2 x3 x4 x5 x6 x7 x8 x9 x10 I => F_Mo_cast_61B k51 k x1 x2 x3 x4 x5 x6 x7 x8 x9 x10 I) (fun _ _ _ _ _ _ _ _ _ _ _ => none) n
noncomputable def F_Mo_cast_51B (k36 : Int32 → Int32 → Int32 → Int32 → Int32 → Int32 → sm_MI → Option (Int32 × sm_MI)) (k51 : Int32 → Int32 → Int32 → Int32 → Int32 → Int32 → Int32 → Int32 → sm_MI → Option (Int32 × sm_MI)) (x1 : Int32) (x2 : Int32) (x3 : Int32) (x4 : Int32) (x5 : Int32) (x6 : Int32) (x7 : Int32) (x8 : Int32) (I : sm_MI) : Option (Int32 × sm_MI) :=
  sd_gu (sm_in x6 20 = true) <|
  if (I 67 (Int32.toNatClampNeg x6)) ≤ x8 then
    k36 x1 x2 x3 x4 x5 (x6 + (1 : Int32)) I
  else
    F_Mo_cast_61 k51 sd_fu x1 x2 x3 x4 x5 x6 x7 x8 (-1 : Int32) (0 : Int32) I
noncomputable def F_Mo_cast_51 (k36 : Int32 → Int32 → Int32 → Int32 → Int32 → Int32 → sm_MI → Option (Int32 × sm_MI)) (n : Nat) : Int32 → Int32 → Int32 → Int32 → Int32 → Int32 → Int32 → Int32 → sm_MI → Option (Int32 × sm_MI) :=
  sd_fix (fun k x1 x2 x3 x4 x5 x6 x7 x8 I => F_Mo_cast_51B k36 k x1 x2 x3 x4 x5 x6 x7 x8 I) (fun _ _ _ _ _ _ _ _ _ => none) n
noncomputable def F_Mo_cast_36B (k36 : Int32 → Int32 → Int32 → Int32 → Int32 → Int32 → sm_MI → Option (Int32 × sm_MI)) (x1 : Int32) (x2 : Int32) (x3 : Int32) (x4 : Int32) (x5 : Int32) (x6 : Int32) (I : sm_MI) : Option (Int32 × sm_MI) :=
  if (((4 : Int32) * x1) + (4 : Int32)) ≤ x6 then
    if ¬ x2 = 0 then
      some (x5, I)
    else
      some (x4, I)
  else
    sd_q1 (F_Mo_ableOf x3 x6 (0 : Int32) I) fun r1 =>
    F_Mo_cast_51 k36 sd_fu x1 x2 x3 x4 x5 x6 r1 (0 : Int32) I
noncomputable def F_Mo_cast_36  (n : Nat) : Int32 → Int32 → Int32 → Int32 → Int32 → Int32 → sm_MI → Option (Int32 × sm_MI) :=
  sd_fix (fun k x1 x2 x3 x4 x5 x6 I => F_Mo_cast_36B k x1 x2 x3 x4 x5 x6 I) (fun _ _ _ _ _ _ _ => none) n
noncomputable def F_Mo_cast (x1 : Int32) (x2 : Int32) (I : sm_MI) : Option (Int32 × sm_MI) :=
  sd_lt (sd_up I 61 0 (0 : Int32)) fun I1 =>
  sd_q2 (F_Mo_isPiece x1 I1) fun r2 I3 =>
  if r2 = 0 then
    some ((0 : Int32), I3)
  else
    sd_q2 (F_Mo_isWhat x2 (1 : Int32) I3) fun r4 I5 =>
    if ¬ r4 = 0 then
      sd_q1 (F_Mo_areSo 86 (0 : Int32) I5) fun r6 =>
      sd_q1 (F_Mo_canBeSung r6 x1 (0 : Int32) I5) fun r7 =>
      if ¬ r7 = 0 then
        sd_lt ((4 : Int32) * x1) fun a8 =>
        F_Mo_cast_36 sd_fu x1 x2 r6 (0 : Int32) (0 : Int32) a8 I5
      else
        some ((-1 : Int32), I5)
    else
      some ((0 : Int32), I5)
theorem G_Mo_cast_61B {X : Nat × (Nat → Int32)} {t d D : Nat} {Q : sm_Q} {I : sm_MI} {J : sm_MJ} {k51 : Int32 → Int32 → Int32 → Int32 → Int32 → Int32 → Int32 → Int32 → sm_MI → Option (Int32 × sm_MI)} {k61 : Int32 → Int32 → Int32 → Int32 → Int32 → Int32 → Int32 → Int32 → Int32 → Int32 → sm_MI → Option (Int32 × sm_MI)} {x1 : Int32} {x2 : Int32} {x3 : Int32} {x4 : Int32} {x5 : Int32} {x6 : Int32} {x7 : Int32} {x8 : Int32} {x9 : Int32} {x10 : Int32} {rz : Int32} {Iz : sm_MI}
    (hD : 4 ≤ D) (h : F_Mo_cast_61B k51 k61 x1 x2 x3 x4 x5 x6 x7 x8 x9 x10 I = some (rz, Iz)) (hQ : Q (.inl (some (.int rz))) (Iz, J, sm_rf t d)) (hk51 : ∀ (x1 : Int32) (x2 : Int32) (x3 : Int32) (x4 : Int32) (x5 : Int32) (x6 : Int32) (x7 : Int32) (x8 : Int32) (I : sm_MI), k51 x1 x2 x3 x4 x5 x6 x7 x8 I = some (rz, Iz) → sm_W sm_sh X (sm_C sm_sh X sm_P D) me_235 Q (51, [some (.ref 61), some (.int x1), some (.int x2), some (.int x3), some (.int x4), some (.int x5), some (.int x6), some (.int x7), some (.int x8), none, none], [], 0, 0) (I, J, sm_rf t d)) (hk61 : ∀ (x1 : Int32) (x2 : Int32) (x3 : Int32) (x4 : Int32) (x5 : Int32) (x6 : Int32) (x7 : Int32) (x8 : Int32) (x9 : Int32) (x10 : Int32) (I : sm_MI), k61 x1 x2 x3 x4 x5 x6 x7 x8 x9 x10 I = some (rz, Iz) → sm_W sm_sh X (sm_C sm_sh X sm_P D) me_235 Q (61, [some (.ref 61), some (.int x1), some (.int x2), some (.int x3), some (.int x4), some (.int x5), some (.int x6), some (.int x7), some (.int x8), some (.int x9), some (.int x10)], [], 0, 0) (I, J, sm_rf t d)) : sm_W sm_sh X (sm_C sm_sh X sm_P D) me_235 Q (61, [some (.ref 61), some (.int x1), some (.int x2), some (.int x3), some (.int x4), some (.int x5), some (.int x6), some (.int x7), some (.int x8), some (.int x9), some (.int x10)], [], 0, 0) (I, J, sm_rf t d) := by
  unfold F_Mo_cast_61B at h
  refine sm_W.run (sm_C_mono D) 4 (G := True) (fr' := (if decide ((I 61 1) ≤ x10) = true then 88 else 65, [some (.ref 61), some (.int x1), some (.int x2), some (.int x3), some (.int x4), some (.int x5), some (.int x6), some (.int x7), some (.int x8), some (.int x9), some (.int x10)], [], 0, 0)) (M' := (I, J, sm_rf t d)) rfl trivial (sm_W.iteD h (fun hc h => ?_) (fun hc h => ?_))
  · refine sm_W.runL (sm_C_mono D) 8 (G := True) (e := (x7 &&& (((1 : Int32) <<< (x9 &&& 31)) ^^^ (-1 : Int32)))) (fr' := fun a1 => (96, [some (.ref 61), some (.int x1), some (.int x2), some (.int x3), some (.int x4), some (.int x5), some (.int x6), some (.int a1), some (.int x8), some (.int x9), some (.int x10)], [], 0, 0)) (M' := fun _ => (I, J, sm_rf t d)) rfl h trivial (fun a1 h => ?_)
    refine sm_W.runL (sm_C_mono D) 6 (G := True) (e := (x4 ||| ((1 : Int32) <<< (x9 &&& 31)))) (fr' := fun a2 => (102, [some (.ref 61), some (.int x1), some (.int x2), some (.int x3), some (.int a2), some (.int x5), some (.int x6), some (.int a1), some (.int x8), some (.int x9), some (.int x10)], [], 0, 0)) (M' := fun _ => (I, J, sm_rf t d)) rfl h trivial (fun a2 h => ?_)
    obtain ⟨g3, h⟩ := sd_gu_go h
    refine sm_W.runL (sm_C_mono D) 7 (G := sm_in x9 14 = true ∧ True) (e := (x5 + (I 66 (Int32.toNatClampNeg x9)))) (fr' := fun a4 => (109, [some (.ref 61), some (.int x1), some (.int x2), some (.int x3), some (.int a2), some (.int a4), some (.int x6), some (.int a1), some (.int x8), some (.int x9), some (.int x10)], [], 0, 0)) (M' := fun _ => (I, J, sm_rf t d)) rfl h ⟨g3, trivial⟩ (fun a4 h => ?_)
    refine sm_W.run (sm_C_mono D) 2 (G := True) (fr' := (51, [some (.ref 61), some (.int x1), some (.int x2), some (.int x3), some (.int a2), some (.int a4), some (.int x6), some (.int a1), some (.int (x8 + (1 : Int32))), some (.int x9), some (.int x10)], [], 0, 0)) (M' := (I, J, sm_rf t d)) rfl trivial ?_
    exact sm_W.forget (L' := [some (.ref 61), some (.int x1), some (.int x2), some (.int x3), some (.int a2), some (.int a4), some (.int x6), some (.int a1), some (.int (x8 + (1 : Int32))), none, none]) ⟨rfl, ⟨rfl, ⟨rfl, ⟨rfl, ⟨rfl, ⟨rfl, ⟨rfl, ⟨rfl, ⟨rfl, trivial⟩⟩⟩⟩⟩⟩⟩⟩⟩ (hk51 _ _ _ _ _ _ _ _ _ h)
  · refine sm_W.run (sm_C_mono D) 7 (G := True) (fr' := (if decide (¬ ((x7 >>> (x10 &&& 31)) &&& (1 : Int32)) = (1 : Int32)) = true then 86 else 72, [some (.ref 61), some (.int x1), some (.int x2), some (.int x3), some (.int x4), some (.int x5), some (.int x6), some (.int x7), some (.int x8), some (.int x9), some (.int x10)], [], 0, 0)) (M' := (I, J, sm_rf t d)) rfl trivial (sm_W.iteD h (fun hc h => ?_) (fun hc h => ?_))
    · refine sm_W.run (sm_C_mono D) 2 (G := True) (fr' := (61, [some (.ref 61), some (.int x1), some (.int x2), some (.int x3), some (.int x4), some (.int x5), some (.int x6), some (.int x7), some (.int x8), some (.int x9), some (.int (x10 + (1 : Int32)))], [], 0, 0)) (M' := (I, J, sm_rf t d)) rfl trivial ?_
      exact (hk61 _ _ _ _ _ _ _ _ _ _ _ h)
    · refine sm_W.run (sm_C_mono D) 3 (G := True) (fr' := (if decide (x9 = (-1 : Int32)) = true then 84 else 75, [some (.ref 61), some (.int x1), some (.int x2), some (.int x3), some (.int x4), some (.int x5), some (.int x6), some (.int x7), some (.int x8), some (.int x9), some (.int x10)], [], 0, 0)) (M' := (I, J, sm_rf t d)) rfl trivial (sm_W.iteD h (fun hc h => ?_) (fun hc h => ?_))
      · refine sm_W.run (sm_C_mono D) 4 (G := True) (fr' := (61, [some (.ref 61), some (.int x1), some (.int x2), some (.int x3), some (.int x4), some (.int x5), some (.int x6), some (.int x7), some (.int x8), some (.int x10), some (.int (x10 + (1 : Int32)))], [], 0, 0)) (M' := (I, J, sm_rf t d)) rfl trivial ?_
        exact (hk61 _ _ _ _ _ _ _ _ _ _ _ h)
      · obtain ⟨g5, h⟩ := sd_gu_go h
        obtain ⟨g6, h⟩ := sd_gu_go h
        refine sm_W.run (sm_C_mono D) 9 (G := sm_in x10 14 = true ∧ sm_in x9 14 = true ∧ True) (fr' := (if decide ((I 66 (Int32.toNatClampNeg x10)) ≤ (I 66 (Int32.toNatClampNeg x9))) = true then 86 else 84, [some (.ref 61), some (.int x1), some (.int x2), some (.int x3), some (.int x4), some (.int x5), some (.int x6), some (.int x7), some (.int x8), some (.int x9), some (.int x10)], [], 0, 0)) (M' := (I, J, sm_rf t d)) rfl ⟨g5, g6, trivial⟩ (sm_W.iteD h (fun hc h => ?_) (fun hc h => ?_))
        · refine sm_W.run (sm_C_mono D) 2 (G := True) (fr' := (61, [some (.ref 61), some (.int x1), some (.int x2), some (.int x3), some (.int x4), some (.int x5), some (.int x6), some (.int x7), some (.int x8), some (.int x9), some (.int (x10 + (1 : Int32)))], [], 0, 0)) (M' := (I, J, sm_rf t d)) rfl trivial ?_
          exact (hk61 _ _ _ _ _ _ _ _ _ _ _ h)
        · refine sm_W.run (sm_C_mono D) 4 (G := True) (fr' := (61, [some (.ref 61), some (.int x1), some (.int x2), some (.int x3), some (.int x4), some (.int x5), some (.int x6), some (.int x7), some (.int x8), some (.int x10), some (.int (x10 + (1 : Int32)))], [], 0, 0)) (M' := (I, J, sm_rf t d)) rfl trivial ?_
          exact (hk61 _ _ _ _ _ _ _ _ _ _ _ h)
theorem G_Mo_cast_61 {X : Nat × (Nat → Int32)} {t d D : Nat} {Q : sm_Q} {J : sm_MJ} {k51 : Int32 → Int32 → Int32 → Int32 → Int32 → Int32 → Int32 → Int32 → sm_MI → Option (Int32 × sm_MI)} {rz : Int32} {Iz : sm_MI}
    (hD : 4 ≤ D) (hQ : Q (.inl (some (.int rz))) (Iz, J, sm_rf t d)) (hk51 : ∀ (x1 : Int32) (x2 : Int32) (x3 : Int32) (x4 : Int32) (x5 : Int32) (x6 : Int32) (x7 : Int32) (x8 : Int32) (I : sm_MI), k51 x1 x2 x3 x4 x5 x6 x7 x8 I = some (rz, Iz) → sm_W sm_sh X (sm_C sm_sh X sm_P D) me_235 Q (51, [some (.ref 61), some (.int x1), some (.int x2), some (.int x3), some (.int x4), some (.int x5), some (.int x6), some (.int x7), some (.int x8), none, none], [], 0, 0) (I, J, sm_rf t d)) : ∀ (n : Nat) (x1 : Int32) (x2 : Int32) (x3 : Int32) (x4 : Int32) (x5 : Int32) (x6 : Int32) (x7 : Int32) (x8 : Int32) (x9 : Int32) (x10 : Int32) (I : sm_MI), F_Mo_cast_61 k51 n x1 x2 x3 x4 x5 x6 x7 x8 x9 x10 I = some (rz, Iz) → sm_W sm_sh X (sm_C sm_sh X sm_P D) me_235 Q (61, [some (.ref 61), some (.int x1), some (.int x2), some (.int x3), some (.int x4), some (.int x5), some (.int x6), some (.int x7), some (.int x8), some (.int x9), some (.int x10)], [], 0, 0) (I, J, sm_rf t d) := by
  intro n
  induction n with
  | zero => intro x1 x2 x3 x4 x5 x6 x7 x8 x9 x10 I h; cases (show (none : Option (Int32 × sm_MI)) = some (rz, Iz) from h)
  | succ n ih => intro x1 x2 x3 x4 x5 x6 x7 x8 x9 x10 I h; exact G_Mo_cast_61B hD (show F_Mo_cast_61B k51 (F_Mo_cast_61 k51 n) x1 x2 x3 x4 x5 x6 x7 x8 x9 x10 I = some (rz, Iz) from h) hQ hk51 ih
theorem G_Mo_cast_51B {X : Nat × (Nat → Int32)} {t d D : Nat} {Q : sm_Q} {I : sm_MI} {J : sm_MJ} {k36 : Int32 → Int32 → Int32 → Int32 → Int32 → Int32 → sm_MI → Option (Int32 × sm_MI)} {k51 : Int32 → Int32 → Int32 → Int32 → Int32 → Int32 → Int32 → Int32 → sm_MI → Option (Int32 × sm_MI)} {x1 : Int32} {x2 : Int32} {x3 : Int32} {x4 : Int32} {x5 : Int32} {x6 : Int32} {x7 : Int32} {x8 : Int32} {rz : Int32} {Iz : sm_MI}
    (hD : 4 ≤ D) (h : F_Mo_cast_51B k36 k51 x1 x2 x3 x4 x5 x6 x7 x8 I = some (rz, Iz)) (hQ : Q (.inl (some (.int rz))) (Iz, J, sm_rf t d)) (hk36 : ∀ (x1 : Int32) (x2 : Int32) (x3 : Int32) (x4 : Int32) (x5 : Int32) (x6 : Int32) (I : sm_MI), k36 x1 x2 x3 x4 x5 x6 I = some (rz, Iz) → sm_W sm_sh X (sm_C sm_sh X sm_P D) me_235 Q (36, [some (.ref 61), some (.int x1), some (.int x2), some (.int x3), some (.int x4), some (.int x5), some (.int x6), none, none, none, none], [], 0, 0) (I, J, sm_rf t d)) (hk51 : ∀ (x1 : Int32) (x2 : Int32) (x3 : Int32) (x4 : Int32) (x5 : Int32) (x6 : Int32) (x7 : Int32) (x8 : Int32) (I : sm_MI), k51 x1 x2 x3 x4 x5 x6 x7 x8 I = some (rz, Iz) → sm_W sm_sh X (sm_C sm_sh X sm_P D) me_235 Q (51, [some (.ref 61), some (.int x1), some (.int x2), some (.int x3), some (.int x4), some (.int x5), some (.int x6), some (.int x7), some (.int x8), none, none], [], 0, 0) (I, J, sm_rf t d)) : sm_W sm_sh X (sm_C sm_sh X sm_P D) me_235 Q (51, [some (.ref 61), some (.int x1), some (.int x2), some (.int x3), some (.int x4), some (.int x5), some (.int x6), some (.int x7), some (.int x8), none, none], [], 0, 0) (I, J, sm_rf t d) := by
  unfold F_Mo_cast_51B at h
  obtain ⟨g1, h⟩ := sd_gu_go h
  refine sm_W.run (sm_C_mono D) 6 (G := sm_in x6 20 = true ∧ True) (fr' := (if decide ((I 67 (Int32.toNatClampNeg x6)) ≤ x8) = true then 111 else 57, [some (.ref 61), some (.int x1), some (.int x2), some (.int x3), some (.int x4), some (.int x5), some (.int x6), some (.int x7), some (.int x8), none, none], [], 0, 0)) (M' := (I, J, sm_rf t d)) rfl ⟨g1, trivial⟩ (sm_W.iteD h (fun hc h => ?_) (fun hc h => ?_))
  · refine sm_W.run (sm_C_mono D) 2 (G := True) (fr' := (36, [some (.ref 61), some (.int x1), some (.int x2), some (.int x3), some (.int x4), some (.int x5), some (.int (x6 + (1 : Int32))), some (.int x7), some (.int x8), none, none], [], 0, 0)) (M' := (I, J, sm_rf t d)) rfl trivial ?_
    exact sm_W.forget (L' := [some (.ref 61), some (.int x1), some (.int x2), some (.int x3), some (.int x4), some (.int x5), some (.int (x6 + (1 : Int32))), none, none, none, none]) ⟨rfl, ⟨rfl, ⟨rfl, ⟨rfl, ⟨rfl, ⟨rfl, ⟨rfl, trivial⟩⟩⟩⟩⟩⟩⟩ (hk36 _ _ _ _ _ _ _ h)
  · refine sm_W.run (sm_C_mono D) 4 (G := True) (fr' := (61, [some (.ref 61), some (.int x1), some (.int x2), some (.int x3), some (.int x4), some (.int x5), some (.int x6), some (.int x7), some (.int x8), some (.int (-1 : Int32)), some (.int (0 : Int32))], [], 0, 0)) (M' := (I, J, sm_rf t d)) rfl trivial ?_
    exact (G_Mo_cast_61 hD hQ hk51 sd_fu _ _ _ _ _ _ _ _ _ _ _ h)
theorem G_Mo_cast_51 {X : Nat × (Nat → Int32)} {t d D : Nat} {Q : sm_Q} {J : sm_MJ} {k36 : Int32 → Int32 → Int32 → Int32 → Int32 → Int32 → sm_MI → Option (Int32 × sm_MI)} {rz : Int32} {Iz : sm_MI}
    (hD : 4 ≤ D) (hQ : Q (.inl (some (.int rz))) (Iz, J, sm_rf t d)) (hk36 : ∀ (x1 : Int32) (x2 : Int32) (x3 : Int32) (x4 : Int32) (x5 : Int32) (x6 : Int32) (I : sm_MI), k36 x1 x2 x3 x4 x5 x6 I = some (rz, Iz) → sm_W sm_sh X (sm_C sm_sh X sm_P D) me_235 Q (36, [some (.ref 61), some (.int x1), some (.int x2), some (.int x3), some (.int x4), some (.int x5), some (.int x6), none, none, none, none], [], 0, 0) (I, J, sm_rf t d)) : ∀ (n : Nat) (x1 : Int32) (x2 : Int32) (x3 : Int32) (x4 : Int32) (x5 : Int32) (x6 : Int32) (x7 : Int32) (x8 : Int32) (I : sm_MI), F_Mo_cast_51 k36 n x1 x2 x3 x4 x5 x6 x7 x8 I = some (rz, Iz) → sm_W sm_sh X (sm_C sm_sh X sm_P D) me_235 Q (51, [some (.ref 61), some (.int x1), some (.int x2), some (.int x3), some (.int x4), some (.int x5), some (.int x6), some (.int x7), some (.int x8), none, none], [], 0, 0) (I, J, sm_rf t d) := by
  intro n
  induction n with
  | zero => intro x1 x2 x3 x4 x5 x6 x7 x8 I h; cases (show (none : Option (Int32 × sm_MI)) = some (rz, Iz) from h)
  | succ n ih => intro x1 x2 x3 x4 x5 x6 x7 x8 I h; exact G_Mo_cast_51B hD (show F_Mo_cast_51B k36 (F_Mo_cast_51 k36 n) x1 x2 x3 x4 x5 x6 x7 x8 I = some (rz, Iz) from h) hQ hk36 ih
theorem G_Mo_cast_36B {X : Nat × (Nat → Int32)} {t d D : Nat} {Q : sm_Q} {I : sm_MI} {J : sm_MJ} {k36 : Int32 → Int32 → Int32 → Int32 → Int32 → Int32 → sm_MI → Option (Int32 × sm_MI)} {x1 : Int32} {x2 : Int32} {x3 : Int32} {x4 : Int32} {x5 : Int32} {x6 : Int32} {rz : Int32} {Iz : sm_MI}
    (hD : 4 ≤ D) (h : F_Mo_cast_36B k36 x1 x2 x3 x4 x5 x6 I = some (rz, Iz)) (hQ : Q (.inl (some (.int rz))) (Iz, J, sm_rf t d)) (hk36 : ∀ (x1 : Int32) (x2 : Int32) (x3 : Int32) (x4 : Int32) (x5 : Int32) (x6 : Int32) (I : sm_MI), k36 x1 x2 x3 x4 x5 x6 I = some (rz, Iz) → sm_W sm_sh X (sm_C sm_sh X sm_P D) me_235 Q (36, [some (.ref 61), some (.int x1), some (.int x2), some (.int x3), some (.int x4), some (.int x5), some (.int x6), none, none, none, none], [], 0, 0) (I, J, sm_rf t d)) : sm_W sm_sh X (sm_C sm_sh X sm_P D) me_235 Q (36, [some (.ref 61), some (.int x1), some (.int x2), some (.int x3), some (.int x4), some (.int x5), some (.int x6), none, none, none, none], [], 0, 0) (I, J, sm_rf t d) := by
  unfold F_Mo_cast_36B at h
  refine sm_W.run (sm_C_mono D) 7 (G := True) (fr' := (if decide ((((4 : Int32) * x1) + (4 : Int32)) ≤ x6) = true then 113 else 43, [some (.ref 61), some (.int x1), some (.int x2), some (.int x3), some (.int x4), some (.int x5), some (.int x6), none, none, none, none], [], 0, 0)) (M' := (I, J, sm_rf t d)) rfl trivial (sm_W.iteD h (fun hc h => ?_) (fun hc h => ?_))
  · refine sm_W.run (sm_C_mono D) 2 (G := True) (fr' := (if decide (¬ x2 = 0) = true then 117 else 115, [some (.ref 61), some (.int x1), some (.int x2), some (.int x3), some (.int x4), some (.int x5), some (.int x6), none, none, none, none], [], 0, 0)) (M' := (I, J, sm_rf t d)) rfl trivial (sm_W.iteD h (fun hc h => ?_) (fun hc h => ?_))
    · refine sm_W.run (sm_C_mono D) 1 (G := True) (fr' := (118, [some (.ref 61), some (.int x1), some (.int x2), some (.int x3), some (.int x4), some (.int x5), some (.int x6), none, none, none, none], [.int x5], 0, 0)) (M' := (I, J, sm_rf t d)) rfl trivial ?_
      cases h
      exact sm_W.ret (sm_C_mono D) rfl hQ
    · refine sm_W.run (sm_C_mono D) 2 (G := True) (fr' := (118, [some (.ref 61), some (.int x1), some (.int x2), some (.int x3), some (.int x4), some (.int x5), some (.int x6), none, none, none, none], [.int x4], 0, 0)) (M' := (I, J, sm_rf t d)) rfl trivial ?_
      cases h
      exact sm_W.ret (sm_C_mono D) rfl hQ
  · refine sm_W.run (sm_C_mono D) 4 (G := True) (fr' := (47, [some (.ref 61), some (.int x1), some (.int x2), some (.int x3), some (.int x4), some (.int x5), some (.int x6), none, none, none, none], [.int (0 : Int32), .int x6, .int x3, .ref 61], 0, 0)) (M' := (I, J, sm_rf t d)) rfl trivial ?_
    obtain ⟨r1, hc, h⟩ := sd_q1_go h
    refine sm_W.cal (sm_C_mono D) (y := 199) (as := [.ref 61, .int x3, .int x6, .int (0 : Int32)]) (fr' := (48, [some (.ref 61), some (.int x1), some (.int x2), some (.int x3), some (.int x4), some (.int x5), some (.int x6), none, none, none, none], [], 0, 0)) rfl (T_Mo_ableOf (by omega) hc ?_)
    show sm_W sm_sh X (sm_C sm_sh X sm_P D) me_235 Q (48, [some (.ref 61), some (.int x1), some (.int x2), some (.int x3), some (.int x4), some (.int x5), some (.int x6), none, none, none, none], [.int r1], 0, 0) (I, J, sm_rf t d)
    refine sm_W.run (sm_C_mono D) 3 (G := True) (fr' := (51, [some (.ref 61), some (.int x1), some (.int x2), some (.int x3), some (.int x4), some (.int x5), some (.int x6), some (.int r1), some (.int (0 : Int32)), none, none], [], 0, 0)) (M' := (I, J, sm_rf t d)) rfl trivial ?_
    exact (G_Mo_cast_51 hD hQ hk36 sd_fu _ _ _ _ _ _ _ _ _ h)
theorem G_Mo_cast_36 {X : Nat × (Nat → Int32)} {t d D : Nat} {Q : sm_Q} {J : sm_MJ} {rz : Int32} {Iz : sm_MI}
    (hD : 4 ≤ D) (hQ : Q (.inl (some (.int rz))) (Iz, J, sm_rf t d))  : ∀ (n : Nat) (x1 : Int32) (x2 : Int32) (x3 : Int32) (x4 : Int32) (x5 : Int32) (x6 : Int32) (I : sm_MI), F_Mo_cast_36 n x1 x2 x3 x4 x5 x6 I = some (rz, Iz) → sm_W sm_sh X (sm_C sm_sh X sm_P D) me_235 Q (36, [some (.ref 61), some (.int x1), some (.int x2), some (.int x3), some (.int x4), some (.int x5), some (.int x6), none, none, none, none], [], 0, 0) (I, J, sm_rf t d) := by
  intro n
  induction n with
  | zero => intro x1 x2 x3 x4 x5 x6 I h; cases (show (none : Option (Int32 × sm_MI)) = some (rz, Iz) from h)
  | succ n ih => intro x1 x2 x3 x4 x5 x6 I h; exact G_Mo_cast_36B hD (show F_Mo_cast_36B (F_Mo_cast_36 n) x1 x2 x3 x4 x5 x6 I = some (rz, Iz) from h) hQ  ih
theorem G_Mo_cast {X : Nat × (Nat → Int32)} {t d D : Nat} {Q : sm_Q} {I : sm_MI} {J : sm_MJ} {x1 : Int32} {x2 : Int32} {rz : Int32} {Iz : sm_MI}
    (hD : 4 ≤ D) (h : F_Mo_cast x1 x2 I = some (rz, Iz)) (hQ : Q (.inl (some (.int rz))) (Iz, J, sm_rf t d))  : sm_W sm_sh X (sm_C sm_sh X sm_P D) me_235 Q (0, [some (.ref 61), some (.int x1), some (.int x2), none, none, none, none, none, none, none, none], [], 0, 0) (I, J, sm_rf t d) := by
  unfold F_Mo_cast at h
  refine sm_W.runL (sm_C_mono D) 3 (G := True) (e := (sd_up I 61 0 (0 : Int32))) (fr' := fun _ => (3, [some (.ref 61), some (.int x1), some (.int x2), none, none, none, none, none, none, none, none], [], 0, 0)) (M' := fun I1 => (I1, J, sm_rf t d)) rfl h trivial (fun I1 h => ?_)
  refine sm_W.run (sm_C_mono D) 2 (G := True) (fr' := (5, [some (.ref 61), some (.int x1), some (.int x2), none, none, none, none, none, none, none, none], [.int x1, .ref 61], 0, 0)) (M' := (I1, J, sm_rf t d)) rfl trivial ?_
  obtain ⟨r2, I3, hc, h⟩ := sd_q2_go h
  refine sm_W.cal (sm_C_mono D) (y := 205) (as := [.ref 61, .int x1]) (fr' := (6, [some (.ref 61), some (.int x1), some (.int x2), none, none, none, none, none, none, none, none], [], 0, 0)) rfl (T_Mo_isPiece (by omega) hc ?_)
  show sm_W sm_sh X (sm_C sm_sh X sm_P D) me_235 Q (6, [some (.ref 61), some (.int x1), some (.int x2), none, none, none, none, none, none, none, none], [.int r2], 0, 0) (I3, J, sm_rf t d)
  refine sm_W.run (sm_C_mono D) 1 (G := True) (fr' := (if decide (r2 = 0) = true then 12 else 7, [some (.ref 61), some (.int x1), some (.int x2), none, none, none, none, none, none, none, none], [], 0, 0)) (M' := (I3, J, sm_rf t d)) rfl trivial (sm_W.iteD h (fun hc h => ?_) (fun hc h => ?_))
  · refine sm_W.run (sm_C_mono D) 1 (G := True) (fr' := (13, [some (.ref 61), some (.int x1), some (.int x2), none, none, none, none, none, none, none, none], [.int (0 : Int32)], 0, 0)) (M' := (I3, J, sm_rf t d)) rfl trivial ?_
    cases h
    exact sm_W.ret (sm_C_mono D) rfl hQ
  · refine sm_W.run (sm_C_mono D) 3 (G := True) (fr' := (10, [some (.ref 61), some (.int x1), some (.int x2), none, none, none, none, none, none, none, none], [.int (1 : Int32), .int x2, .ref 61], 0, 0)) (M' := (I3, J, sm_rf t d)) rfl trivial ?_
    obtain ⟨r4, I5, hc, h⟩ := sd_q2_go h
    refine sm_W.cal (sm_C_mono D) (y := 206) (as := [.ref 61, .int x2, .int (1 : Int32)]) (fr' := (11, [some (.ref 61), some (.int x1), some (.int x2), none, none, none, none, none, none, none, none], [], 0, 0)) rfl (T_Mo_isWhat (by omega) hc ?_)
    show sm_W sm_sh X (sm_C sm_sh X sm_P D) me_235 Q (11, [some (.ref 61), some (.int x1), some (.int x2), none, none, none, none, none, none, none, none], [.int r4], 0, 0) (I5, J, sm_rf t d)
    refine sm_W.run (sm_C_mono D) 1 (G := True) (fr' := (if decide (¬ r4 = 0) = true then 14 else 12, [some (.ref 61), some (.int x1), some (.int x2), none, none, none, none, none, none, none, none], [], 0, 0)) (M' := (I5, J, sm_rf t d)) rfl trivial (sm_W.iteD h (fun hc h => ?_) (fun hc h => ?_))
    · refine sm_W.run (sm_C_mono D) 4 (G := True) (fr' := (18, [some (.ref 61), some (.int x1), some (.int x2), none, none, none, none, none, none, none, none], [.int (0 : Int32), .ref 86, .ref 61], 0, 0)) (M' := (I5, J, sm_rf t d)) rfl trivial ?_
      obtain ⟨r6, hc, h⟩ := sd_q1_go h
      refine sm_W.cal (sm_C_mono D) (y := 196) (as := [.ref 61, .ref 86, .int (0 : Int32)]) (fr' := (19, [some (.ref 61), some (.int x1), some (.int x2), none, none, none, none, none, none, none, none], [], 0, 0)) rfl (T_Mo_areSo (by omega) (by decide) hc ?_)
      show sm_W sm_sh X (sm_C sm_sh X sm_P D) me_235 Q (19, [some (.ref 61), some (.int x1), some (.int x2), none, none, none, none, none, none, none, none], [.int r6], 0, 0) (I5, J, sm_rf t d)
      refine sm_W.run (sm_C_mono D) 5 (G := True) (fr' := (24, [some (.ref 61), some (.int x1), some (.int x2), some (.int r6), none, none, none, none, none, none, none], [.int (0 : Int32), .int x1, .int r6, .ref 61], 0, 0)) (M' := (I5, J, sm_rf t d)) rfl trivial ?_
      obtain ⟨r7, hc, h⟩ := sd_q1_go h
      refine sm_W.cal (sm_C_mono D) (y := 201) (as := [.ref 61, .int r6, .int x1, .int (0 : Int32)]) (fr' := (25, [some (.ref 61), some (.int x1), some (.int x2), some (.int r6), none, none, none, none, none, none, none], [], 0, 0)) rfl (T_Mo_canBeSung (by omega) hc ?_)
      show sm_W sm_sh X (sm_C sm_sh X sm_P D) me_235 Q (25, [some (.ref 61), some (.int x1), some (.int x2), some (.int r6), none, none, none, none, none, none, none], [.int r7], 0, 0) (I5, J, sm_rf t d)
      refine sm_W.run (sm_C_mono D) 1 (G := True) (fr' := (if decide (¬ r7 = 0) = true then 28 else 26, [some (.ref 61), some (.int x1), some (.int x2), some (.int r6), none, none, none, none, none, none, none], [], 0, 0)) (M' := (I5, J, sm_rf t d)) rfl trivial (sm_W.iteD h (fun hc h => ?_) (fun hc h => ?_))
      · refine sm_W.runL (sm_C_mono D) 8 (G := True) (e := ((4 : Int32) * x1)) (fr' := fun a8 => (36, [some (.ref 61), some (.int x1), some (.int x2), some (.int r6), some (.int (0 : Int32)), some (.int (0 : Int32)), some (.int a8), none, none, none, none], [], 0, 0)) (M' := fun _ => (I5, J, sm_rf t d)) rfl h trivial (fun a8 h => ?_)
        exact (G_Mo_cast_36 hD hQ sd_fu _ _ _ _ _ _ _ h)
      · refine sm_W.run (sm_C_mono D) 1 (G := True) (fr' := (27, [some (.ref 61), some (.int x1), some (.int x2), some (.int r6), none, none, none, none, none, none, none], [.int (-1 : Int32)], 0, 0)) (M' := (I5, J, sm_rf t d)) rfl trivial ?_
        cases h
        exact sm_W.ret (sm_C_mono D) rfl hQ
    · refine sm_W.run (sm_C_mono D) 1 (G := True) (fr' := (13, [some (.ref 61), some (.int x1), some (.int x2), none, none, none, none, none, none, none, none], [.int (0 : Int32)], 0, 0)) (M' := (I5, J, sm_rf t d)) rfl trivial ?_
      cases h
      exact sm_W.ret (sm_C_mono D) rfl hQ
theorem T_Mo_cast {X : Nat × (Nat → Int32)} {t d D : Nat} {Q : sm_Q} {I : sm_MI} {J : sm_MJ} {x1 : Int32} {x2 : Int32} {rz : Int32} {Iz : sm_MI}
    (hD : 5 ≤ D) (h : F_Mo_cast x1 x2 I = some (rz, Iz)) (hQ : Q (.inl (some (.int rz))) (Iz, J, sm_rf t d)) : sm_C sm_sh X sm_P D 235 [.ref 61, .int x1, .int x2] (I, J, sm_rf t d) Q := by
  cases D with
  | zero => omega
  | succ D => exact sm_C.of (me := me_235) (L := [some (.ref 61), some (.int x1), some (.int x2), none, none, none, none, none, none, none, none]) rfl rfl rfl (sm_W.forget (L' := [some (.ref 61), some (.int x1), some (.int x2), none, none, none, none, none, none, none, none]) ⟨rfl, ⟨rfl, ⟨rfl, trivial⟩⟩⟩ (G_Mo_cast (by omega) h hQ))
-- 236 Mo_isOnScale
noncomputable def F_Mo_isOnScale_13B (k4 : Int32 → Int32 → Int32 → Option (Int32)) (k13 : Int32 → Int32 → Int32 → Int32 → Option (Int32)) (x1 : Int32) (x2 : Int32) (x3 : Int32) (x4 : Int32) (I : sm_MI) : Option (Int32) :=
  sd_q1 (F_Mo_notesOf x3 I) fun r1 =>
  if r1 ≤ x4 then
    k4 x1 x2 (x3 + (1 : Int32))
  else
    sd_gu (sm_in (((12 : Int32) * x3) + x4) 240 = true) <|
    sd_q1 (F_Mo_within ((I 69 (Int32.toNatClampNeg (((12 : Int32) * x3) + x4))) + x2) (0 : Int32) (48 : Int32)) fun r3 =>
    if ¬ r3 = 0 then
      k13 x1 x2 x3 (x4 + (1 : Int32))
    else
      some ((0 : Int32))
noncomputable def F_Mo_isOnScale_13 (k4 : Int32 → Int32 → Int32 → Option (Int32)) (I : sm_MI) (n : Nat) : Int32 → Int32 → Int32 → Int32 → Option (Int32) :=
  sd_fix (fun k x1 x2 x3 x4 => F_Mo_isOnScale_13B k4 k x1 x2 x3 x4 I) (fun _ _ _ _ => none) n
noncomputable def F_Mo_isOnScale_4B (k4 : Int32 → Int32 → Int32 → Option (Int32)) (x1 : Int32) (x2 : Int32) (x3 : Int32) (I : sm_MI) : Option (Int32) :=
  if (((4 : Int32) * x1) + (4 : Int32)) ≤ x3 then
    some ((1 : Int32))
  else
    F_Mo_isOnScale_13 k4 I sd_fu x1 x2 x3 (0 : Int32)
noncomputable def F_Mo_isOnScale_4 (I : sm_MI) (n : Nat) : Int32 → Int32 → Int32 → Option (Int32) :=
  sd_fix (fun k x1 x2 x3 => F_Mo_isOnScale_4B k x1 x2 x3 I) (fun _ _ _ => none) n
noncomputable def F_Mo_isOnScale (x1 : Int32) (x2 : Int32) (I : sm_MI) : Option (Int32) :=
  sd_lt ((4 : Int32) * x1) fun a1 =>
  F_Mo_isOnScale_4 I sd_fu x1 x2 a1
theorem G_Mo_isOnScale_13B {X : Nat × (Nat → Int32)} {t d D : Nat} {Q : sm_Q} {I : sm_MI} {J : sm_MJ} {k4 : Int32 → Int32 → Int32 → Option (Int32)} {k13 : Int32 → Int32 → Int32 → Int32 → Option (Int32)} {x1 : Int32} {x2 : Int32} {x3 : Int32} {x4 : Int32} {rz : Int32}
    (hD : 1 ≤ D) (h : F_Mo_isOnScale_13B k4 k13 x1 x2 x3 x4 I = some (rz)) (hQ : Q (.inl (some (.int rz))) (I, J, sm_rf t d)) (hk4 : ∀ (x1 : Int32) (x2 : Int32) (x3 : Int32), k4 x1 x2 x3 = some (rz) → sm_W sm_sh X (sm_C sm_sh X sm_P D) me_236 Q (4, [some (.ref 61), some (.int x1), some (.int x2), some (.int x3), none], [], 0, 0) (I, J, sm_rf t d)) (hk13 : ∀ (x1 : Int32) (x2 : Int32) (x3 : Int32) (x4 : Int32), k13 x1 x2 x3 x4 = some (rz) → sm_W sm_sh X (sm_C sm_sh X sm_P D) me_236 Q (13, [some (.ref 61), some (.int x1), some (.int x2), some (.int x3), some (.int x4)], [], 0, 0) (I, J, sm_rf t d)) : sm_W sm_sh X (sm_C sm_sh X sm_P D) me_236 Q (13, [some (.ref 61), some (.int x1), some (.int x2), some (.int x3), some (.int x4)], [], 0, 0) (I, J, sm_rf t d) := by
  unfold F_Mo_isOnScale_13B at h
  refine sm_W.run (sm_C_mono D) 3 (G := True) (fr' := (16, [some (.ref 61), some (.int x1), some (.int x2), some (.int x3), some (.int x4)], [.int x3, .ref 61, .int x4], 0, 0)) (M' := (I, J, sm_rf t d)) rfl trivial ?_
  obtain ⟨r1, hc, h⟩ := sd_q1_go h
  refine sm_W.cal (sm_C_mono D) (y := 208) (as := [.ref 61, .int x3]) (fr' := (17, [some (.ref 61), some (.int x1), some (.int x2), some (.int x3), some (.int x4)], [.int x4], 0, 0)) rfl (T_Mo_notesOf (by omega) hc ?_)
  show sm_W sm_sh X (sm_C sm_sh X sm_P D) me_236 Q (17, [some (.ref 61), some (.int x1), some (.int x2), some (.int x3), some (.int x4)], [.int r1, .int x4], 0, 0) (I, J, sm_rf t d)
  refine sm_W.run (sm_C_mono D) 1 (G := True) (fr' := (if decide (r1 ≤ x4) = true then 36 else 18, [some (.ref 61), some (.int x1), some (.int x2), some (.int x3), some (.int x4)], [], 0, 0)) (M' := (I, J, sm_rf t d)) rfl trivial (sm_W.iteD h (fun hc h => ?_) (fun hc h => ?_))
  · refine sm_W.run (sm_C_mono D) 2 (G := True) (fr' := (4, [some (.ref 61), some (.int x1), some (.int x2), some (.int (x3 + (1 : Int32))), some (.int x4)], [], 0, 0)) (M' := (I, J, sm_rf t d)) rfl trivial ?_
    exact sm_W.forget (L' := [some (.ref 61), some (.int x1), some (.int x2), some (.int (x3 + (1 : Int32))), none]) ⟨rfl, ⟨rfl, ⟨rfl, ⟨rfl, trivial⟩⟩⟩⟩ (hk4 _ _ _ h)
  · obtain ⟨g2, h⟩ := sd_gu_go h
    refine sm_W.run (sm_C_mono D) 12 (G := sm_in (((12 : Int32) * x3) + x4) 240 = true ∧ True) (fr' := (30, [some (.ref 61), some (.int x1), some (.int x2), some (.int x3), some (.int x4)], [.int (48 : Int32), .int (0 : Int32), .int ((I 69 (Int32.toNatClampNeg (((12 : Int32) * x3) + x4))) + x2)], 0, 0)) (M' := (I, J, sm_rf t d)) rfl ⟨g2, trivial⟩ ?_
    obtain ⟨r3, hc, h⟩ := sd_q1_go h
    refine sm_W.cal (sm_C_mono D) (y := 159) (as := [.int ((I 69 (Int32.toNatClampNeg (((12 : Int32) * x3) + x4))) + x2), .int (0 : Int32), .int (48 : Int32)]) (fr' := (31, [some (.ref 61), some (.int x1), some (.int x2), some (.int x3), some (.int x4)], [], 0, 0)) rfl (T_Mo_within (by omega) hc ?_)
    show sm_W sm_sh X (sm_C sm_sh X sm_P D) me_236 Q (31, [some (.ref 61), some (.int x1), some (.int x2), some (.int x3), some (.int x4)], [.int r3], 0, 0) (I, J, sm_rf t d)
    refine sm_W.run (sm_C_mono D) 1 (G := True) (fr' := (if decide (¬ r3 = 0) = true then 34 else 32, [some (.ref 61), some (.int x1), some (.int x2), some (.int x3), some (.int x4)], [], 0, 0)) (M' := (I, J, sm_rf t d)) rfl trivial (sm_W.iteD h (fun hc h => ?_) (fun hc h => ?_))
    · refine sm_W.run (sm_C_mono D) 2 (G := True) (fr' := (13, [some (.ref 61), some (.int x1), some (.int x2), some (.int x3), some (.int (x4 + (1 : Int32)))], [], 0, 0)) (M' := (I, J, sm_rf t d)) rfl trivial ?_
      exact (hk13 _ _ _ _ h)
    · refine sm_W.run (sm_C_mono D) 1 (G := True) (fr' := (33, [some (.ref 61), some (.int x1), some (.int x2), some (.int x3), some (.int x4)], [.int (0 : Int32)], 0, 0)) (M' := (I, J, sm_rf t d)) rfl trivial ?_
      cases h
      exact sm_W.ret (sm_C_mono D) rfl hQ
theorem G_Mo_isOnScale_13 {X : Nat × (Nat → Int32)} {t d D : Nat} {Q : sm_Q} {I : sm_MI} {J : sm_MJ} {k4 : Int32 → Int32 → Int32 → Option (Int32)} {rz : Int32}
    (hD : 1 ≤ D) (hQ : Q (.inl (some (.int rz))) (I, J, sm_rf t d)) (hk4 : ∀ (x1 : Int32) (x2 : Int32) (x3 : Int32), k4 x1 x2 x3 = some (rz) → sm_W sm_sh X (sm_C sm_sh X sm_P D) me_236 Q (4, [some (.ref 61), some (.int x1), some (.int x2), some (.int x3), none], [], 0, 0) (I, J, sm_rf t d)) : ∀ (n : Nat) (x1 : Int32) (x2 : Int32) (x3 : Int32) (x4 : Int32), F_Mo_isOnScale_13 k4 I n x1 x2 x3 x4 = some (rz) → sm_W sm_sh X (sm_C sm_sh X sm_P D) me_236 Q (13, [some (.ref 61), some (.int x1), some (.int x2), some (.int x3), some (.int x4)], [], 0, 0) (I, J, sm_rf t d) := by
  intro n
  induction n with
  | zero => intro x1 x2 x3 x4 h; cases (show (none : Option (Int32)) = some (rz) from h)
  | succ n ih => intro x1 x2 x3 x4 h; exact G_Mo_isOnScale_13B hD (show F_Mo_isOnScale_13B k4 (F_Mo_isOnScale_13 k4 I n) x1 x2 x3 x4 I = some (rz) from h) hQ hk4 ih
theorem G_Mo_isOnScale_4B {X : Nat × (Nat → Int32)} {t d D : Nat} {Q : sm_Q} {I : sm_MI} {J : sm_MJ} {k4 : Int32 → Int32 → Int32 → Option (Int32)} {x1 : Int32} {x2 : Int32} {x3 : Int32} {rz : Int32}
    (hD : 1 ≤ D) (h : F_Mo_isOnScale_4B k4 x1 x2 x3 I = some (rz)) (hQ : Q (.inl (some (.int rz))) (I, J, sm_rf t d)) (hk4 : ∀ (x1 : Int32) (x2 : Int32) (x3 : Int32), k4 x1 x2 x3 = some (rz) → sm_W sm_sh X (sm_C sm_sh X sm_P D) me_236 Q (4, [some (.ref 61), some (.int x1), some (.int x2), some (.int x3), none], [], 0, 0) (I, J, sm_rf t d)) : sm_W sm_sh X (sm_C sm_sh X sm_P D) me_236 Q (4, [some (.ref 61), some (.int x1), some (.int x2), some (.int x3), none], [], 0, 0) (I, J, sm_rf t d) := by
  unfold F_Mo_isOnScale_4B at h
  refine sm_W.run (sm_C_mono D) 7 (G := True) (fr' := (if decide ((((4 : Int32) * x1) + (4 : Int32)) ≤ x3) = true then 38 else 11, [some (.ref 61), some (.int x1), some (.int x2), some (.int x3), none], [], 0, 0)) (M' := (I, J, sm_rf t d)) rfl trivial (sm_W.iteD h (fun hc h => ?_) (fun hc h => ?_))
  · refine sm_W.run (sm_C_mono D) 1 (G := True) (fr' := (39, [some (.ref 61), some (.int x1), some (.int x2), some (.int x3), none], [.int (1 : Int32)], 0, 0)) (M' := (I, J, sm_rf t d)) rfl trivial ?_
    cases h
    exact sm_W.ret (sm_C_mono D) rfl hQ
  · refine sm_W.run (sm_C_mono D) 2 (G := True) (fr' := (13, [some (.ref 61), some (.int x1), some (.int x2), some (.int x3), some (.int (0 : Int32))], [], 0, 0)) (M' := (I, J, sm_rf t d)) rfl trivial ?_
    exact (G_Mo_isOnScale_13 hD hQ hk4 sd_fu _ _ _ _ h)
theorem G_Mo_isOnScale_4 {X : Nat × (Nat → Int32)} {t d D : Nat} {Q : sm_Q} {I : sm_MI} {J : sm_MJ} {rz : Int32}
    (hD : 1 ≤ D) (hQ : Q (.inl (some (.int rz))) (I, J, sm_rf t d))  : ∀ (n : Nat) (x1 : Int32) (x2 : Int32) (x3 : Int32), F_Mo_isOnScale_4 I n x1 x2 x3 = some (rz) → sm_W sm_sh X (sm_C sm_sh X sm_P D) me_236 Q (4, [some (.ref 61), some (.int x1), some (.int x2), some (.int x3), none], [], 0, 0) (I, J, sm_rf t d) := by
  intro n
  induction n with
  | zero => intro x1 x2 x3 h; cases (show (none : Option (Int32)) = some (rz) from h)
  | succ n ih => intro x1 x2 x3 h; exact G_Mo_isOnScale_4B hD (show F_Mo_isOnScale_4B (F_Mo_isOnScale_4 I n) x1 x2 x3 I = some (rz) from h) hQ  ih
theorem G_Mo_isOnScale {X : Nat × (Nat → Int32)} {t d D : Nat} {Q : sm_Q} {I : sm_MI} {J : sm_MJ} {x1 : Int32} {x2 : Int32} {rz : Int32}
    (hD : 1 ≤ D) (h : F_Mo_isOnScale x1 x2 I = some (rz)) (hQ : Q (.inl (some (.int rz))) (I, J, sm_rf t d))  : sm_W sm_sh X (sm_C sm_sh X sm_P D) me_236 Q (0, [some (.ref 61), some (.int x1), some (.int x2), none, none], [], 0, 0) (I, J, sm_rf t d) := by
  unfold F_Mo_isOnScale at h
  refine sm_W.runL (sm_C_mono D) 4 (G := True) (e := ((4 : Int32) * x1)) (fr' := fun a1 => (4, [some (.ref 61), some (.int x1), some (.int x2), some (.int a1), none], [], 0, 0)) (M' := fun _ => (I, J, sm_rf t d)) rfl h trivial (fun a1 h => ?_)
  exact (G_Mo_isOnScale_4 hD hQ sd_fu _ _ _ h)
theorem T_Mo_isOnScale {X : Nat × (Nat → Int32)} {t d D : Nat} {Q : sm_Q} {I : sm_MI} {J : sm_MJ} {x1 : Int32} {x2 : Int32} {rz : Int32}
    (hD : 2 ≤ D) (h : F_Mo_isOnScale x1 x2 I = some (rz)) (hQ : Q (.inl (some (.int rz))) (I, J, sm_rf t d)) : sm_C sm_sh X sm_P D 236 [.ref 61, .int x1, .int x2] (I, J, sm_rf t d) Q := by
  cases D with
  | zero => omega
  | succ D => exact sm_C.of (me := me_236) (L := [some (.ref 61), some (.int x1), some (.int x2), none, none]) rfl rfl rfl (sm_W.forget (L' := [some (.ref 61), some (.int x1), some (.int x2), none, none]) ⟨rfl, ⟨rfl, ⟨rfl, trivial⟩⟩⟩ (G_Mo_isOnScale (by omega) h hQ))
-- 237 Mo_transposed
noncomputable def F_Mo_transposed_30 (k11 : Int32 → Int32 → sm_MI → Option (Int32 × sm_MI)) (x1 : Int32) (x2 : Int32) (s0 : Int32) (I : sm_MI) : Option (Int32 × sm_MI) :=
  sd_q1 (F_Mo_isOnScale x1 s0 I) fun r1 =>
  if r1 = 0 then
    k11 x1 (x2 + (1 : Int32)) I
  else
    sd_q1 (F_Mo_areSo 86 (0 : Int32) I) fun r2 =>
    sd_q1 (F_Mo_canBeSung r2 x1 s0 I) fun r3 =>
    if r3 = 0 then
      k11 x1 (x2 + (1 : Int32)) I
    else
      some (s0, I)
noncomputable def F_Mo_transposed_11B (k11 : Int32 → Int32 → sm_MI → Option (Int32 × sm_MI)) (x1 : Int32) (x2 : Int32) (I : sm_MI) : Option (Int32 × sm_MI) :=
  if (24 : Int32) < x2 then
    some ((-99 : Int32), I)
  else
    sd_gu (¬ (2 : Int32) = 0) <|
    if ¬ (sd_mod x2 (2 : Int32)) = (1 : Int32) then
      sd_gu (¬ (2 : Int32) = 0) <|
      F_Mo_transposed_30 k11 x1 x2 (x2 / (2 : Int32)) I
    else
      sd_gu (¬ (2 : Int32) = 0) <|
      F_Mo_transposed_30 k11 x1 x2 ((0 : Int32) - ((x2 + (1 : Int32)) / (2 : Int32))) I
noncomputable def F_Mo_transposed_11  (n : Nat) : Int32 → Int32 → sm_MI → Option (Int32 × sm_MI) :=
  sd_fix (fun k x1 x2 I => F_Mo_transposed_11B k x1 x2 I) (fun _ _ _ => none) n
noncomputable def F_Mo_transposed (x1 : Int32) (I : sm_MI) : Option (Int32 × sm_MI) :=
  sd_lt (sd_up I 61 0 (0 : Int32)) fun I1 =>
  sd_q2 (F_Mo_isPiece x1 I1) fun r2 I3 =>
  if ¬ r2 = 0 then
    F_Mo_transposed_11 sd_fu x1 (0 : Int32) I3
  else
    some ((0 : Int32), I3)
theorem G_Mo_transposed_30 {X : Nat × (Nat → Int32)} {t d D : Nat} {Q : sm_Q} {I : sm_MI} {J : sm_MJ} {k11 : Int32 → Int32 → sm_MI → Option (Int32 × sm_MI)} {x1 : Int32} {x2 : Int32} {s0 : Int32} {rz : Int32} {Iz : sm_MI}
    (hD : 4 ≤ D) (h : F_Mo_transposed_30 k11 x1 x2 s0 I = some (rz, Iz)) (hQ : Q (.inl (some (.int rz))) (Iz, J, sm_rf t d)) (hk11 : ∀ (x1 : Int32) (x2 : Int32) (I : sm_MI), k11 x1 x2 I = some (rz, Iz) → sm_W sm_sh X (sm_C sm_sh X sm_P D) me_237 Q (11, [some (.ref 61), some (.int x1), some (.int x2), none], [], 0, 0) (I, J, sm_rf t d)) : sm_W sm_sh X (sm_C sm_sh X sm_P D) me_237 Q (30, [some (.ref 61), some (.int x1), some (.int x2), none], [.int s0], 0, 0) (I, J, sm_rf t d) := by
  unfold F_Mo_transposed_30 at h
  refine sm_W.run (sm_C_mono D) 4 (G := True) (fr' := (34, [some (.ref 61), some (.int x1), some (.int x2), some (.int s0)], [.int s0, .int x1, .ref 61], 0, 0)) (M' := (I, J, sm_rf t d)) rfl trivial ?_
  obtain ⟨r1, hc, h⟩ := sd_q1_go h
  refine sm_W.cal (sm_C_mono D) (y := 236) (as := [.ref 61, .int x1, .int s0]) (fr' := (35, [some (.ref 61), some (.int x1), some (.int x2), some (.int s0)], [], 0, 0)) rfl (T_Mo_isOnScale (by omega) hc ?_)
  show sm_W sm_sh X (sm_C sm_sh X sm_P D) me_237 Q (35, [some (.ref 61), some (.int x1), some (.int x2), some (.int s0)], [.int r1], 0, 0) (I, J, sm_rf t d)
  refine sm_W.run (sm_C_mono D) 1 (G := True) (fr' := (if decide (r1 = 0) = true then 48 else 36, [some (.ref 61), some (.int x1), some (.int x2), some (.int s0)], [], 0, 0)) (M' := (I, J, sm_rf t d)) rfl trivial (sm_W.iteD h (fun hc h => ?_) (fun hc h => ?_))
  · refine sm_W.run (sm_C_mono D) 2 (G := True) (fr' := (11, [some (.ref 61), some (.int x1), some (.int (x2 + (1 : Int32))), some (.int s0)], [], 0, 0)) (M' := (I, J, sm_rf t d)) rfl trivial ?_
    exact sm_W.forget (L' := [some (.ref 61), some (.int x1), some (.int (x2 + (1 : Int32))), none]) ⟨rfl, ⟨rfl, ⟨rfl, trivial⟩⟩⟩ (hk11 _ _ _ h)
  · refine sm_W.run (sm_C_mono D) 5 (G := True) (fr' := (41, [some (.ref 61), some (.int x1), some (.int x2), some (.int s0)], [.int (0 : Int32), .ref 86, .ref 61, .ref 61], 0, 0)) (M' := (I, J, sm_rf t d)) rfl trivial ?_
    obtain ⟨r2, hc, h⟩ := sd_q1_go h
    refine sm_W.cal (sm_C_mono D) (y := 196) (as := [.ref 61, .ref 86, .int (0 : Int32)]) (fr' := (42, [some (.ref 61), some (.int x1), some (.int x2), some (.int s0)], [.ref 61], 0, 0)) rfl (T_Mo_areSo (by omega) (by decide) hc ?_)
    show sm_W sm_sh X (sm_C sm_sh X sm_P D) me_237 Q (42, [some (.ref 61), some (.int x1), some (.int x2), some (.int s0)], [.int r2, .ref 61], 0, 0) (I, J, sm_rf t d)
    refine sm_W.run (sm_C_mono D) 2 (G := True) (fr' := (44, [some (.ref 61), some (.int x1), some (.int x2), some (.int s0)], [.int s0, .int x1, .int r2, .ref 61], 0, 0)) (M' := (I, J, sm_rf t d)) rfl trivial ?_
    obtain ⟨r3, hc, h⟩ := sd_q1_go h
    refine sm_W.cal (sm_C_mono D) (y := 201) (as := [.ref 61, .int r2, .int x1, .int s0]) (fr' := (45, [some (.ref 61), some (.int x1), some (.int x2), some (.int s0)], [], 0, 0)) rfl (T_Mo_canBeSung (by omega) hc ?_)
    show sm_W sm_sh X (sm_C sm_sh X sm_P D) me_237 Q (45, [some (.ref 61), some (.int x1), some (.int x2), some (.int s0)], [.int r3], 0, 0) (I, J, sm_rf t d)
    refine sm_W.run (sm_C_mono D) 1 (G := True) (fr' := (if decide (r3 = 0) = true then 48 else 46, [some (.ref 61), some (.int x1), some (.int x2), some (.int s0)], [], 0, 0)) (M' := (I, J, sm_rf t d)) rfl trivial (sm_W.iteD h (fun hc h => ?_) (fun hc h => ?_))
    · refine sm_W.run (sm_C_mono D) 2 (G := True) (fr' := (11, [some (.ref 61), some (.int x1), some (.int (x2 + (1 : Int32))), some (.int s0)], [], 0, 0)) (M' := (I, J, sm_rf t d)) rfl trivial ?_
      exact sm_W.forget (L' := [some (.ref 61), some (.int x1), some (.int (x2 + (1 : Int32))), none]) ⟨rfl, ⟨rfl, ⟨rfl, trivial⟩⟩⟩ (hk11 _ _ _ h)
    · refine sm_W.run (sm_C_mono D) 1 (G := True) (fr' := (47, [some (.ref 61), some (.int x1), some (.int x2), some (.int s0)], [.int s0], 0, 0)) (M' := (I, J, sm_rf t d)) rfl trivial ?_
      cases h
      exact sm_W.ret (sm_C_mono D) rfl hQ
theorem G_Mo_transposed_11B {X : Nat × (Nat → Int32)} {t d D : Nat} {Q : sm_Q} {I : sm_MI} {J : sm_MJ} {k11 : Int32 → Int32 → sm_MI → Option (Int32 × sm_MI)} {x1 : Int32} {x2 : Int32} {rz : Int32} {Iz : sm_MI}
    (hD : 4 ≤ D) (h : F_Mo_transposed_11B k11 x1 x2 I = some (rz, Iz)) (hQ : Q (.inl (some (.int rz))) (Iz, J, sm_rf t d)) (hk11 : ∀ (x1 : Int32) (x2 : Int32) (I : sm_MI), k11 x1 x2 I = some (rz, Iz) → sm_W sm_sh X (sm_C sm_sh X sm_P D) me_237 Q (11, [some (.ref 61), some (.int x1), some (.int x2), none], [], 0, 0) (I, J, sm_rf t d)) : sm_W sm_sh X (sm_C sm_sh X sm_P D) me_237 Q (11, [some (.ref 61), some (.int x1), some (.int x2), none], [], 0, 0) (I, J, sm_rf t d) := by
  unfold F_Mo_transposed_11B at h
  refine sm_W.run (sm_C_mono D) 3 (G := True) (fr' := (if decide ((24 : Int32) < x2) = true then 50 else 14, [some (.ref 61), some (.int x1), some (.int x2), none], [], 0, 0)) (M' := (I, J, sm_rf t d)) rfl trivial (sm_W.iteD h (fun hc h => ?_) (fun hc h => ?_))
  · refine sm_W.run (sm_C_mono D) 1 (G := True) (fr' := (51, [some (.ref 61), some (.int x1), some (.int x2), none], [.int (-99 : Int32)], 0, 0)) (M' := (I, J, sm_rf t d)) rfl trivial ?_
    cases h
    exact sm_W.ret (sm_C_mono D) rfl hQ
  · obtain ⟨g1, h⟩ := sd_gu_go h
    refine sm_W.run (sm_C_mono D) 5 (G := ¬ (2 : Int32) = 0 ∧ True) (fr' := (if decide (¬ (sd_mod x2 (2 : Int32)) = (1 : Int32)) = true then 27 else 19, [some (.ref 61), some (.int x1), some (.int x2), none], [], 0, 0)) (M' := (I, J, sm_rf t d)) rfl ⟨g1, trivial⟩ (sm_W.iteD h (fun hc h => ?_) (fun hc h => ?_))
    · obtain ⟨g2, h⟩ := sd_gu_go h
      refine sm_W.run (sm_C_mono D) 3 (G := ¬ (2 : Int32) = 0 ∧ True) (fr' := (30, [some (.ref 61), some (.int x1), some (.int x2), none], [.int (x2 / (2 : Int32))], 0, 0)) (M' := (I, J, sm_rf t d)) rfl ⟨g2, trivial⟩ ?_
      exact (G_Mo_transposed_30 hD h hQ hk11)
    · obtain ⟨g3, h⟩ := sd_gu_go h
      refine sm_W.run (sm_C_mono D) 8 (G := ¬ (2 : Int32) = 0 ∧ True) (fr' := (30, [some (.ref 61), some (.int x1), some (.int x2), none], [.int ((0 : Int32) - ((x2 + (1 : Int32)) / (2 : Int32)))], 0, 0)) (M' := (I, J, sm_rf t d)) rfl ⟨g3, trivial⟩ ?_
      exact (G_Mo_transposed_30 hD h hQ hk11)
theorem G_Mo_transposed_11 {X : Nat × (Nat → Int32)} {t d D : Nat} {Q : sm_Q} {J : sm_MJ} {rz : Int32} {Iz : sm_MI}
    (hD : 4 ≤ D) (hQ : Q (.inl (some (.int rz))) (Iz, J, sm_rf t d))  : ∀ (n : Nat) (x1 : Int32) (x2 : Int32) (I : sm_MI), F_Mo_transposed_11 n x1 x2 I = some (rz, Iz) → sm_W sm_sh X (sm_C sm_sh X sm_P D) me_237 Q (11, [some (.ref 61), some (.int x1), some (.int x2), none], [], 0, 0) (I, J, sm_rf t d) := by
  intro n
  induction n with
  | zero => intro x1 x2 I h; cases (show (none : Option (Int32 × sm_MI)) = some (rz, Iz) from h)
  | succ n ih => intro x1 x2 I h; exact G_Mo_transposed_11B hD (show F_Mo_transposed_11B (F_Mo_transposed_11 n) x1 x2 I = some (rz, Iz) from h) hQ  ih
theorem G_Mo_transposed {X : Nat × (Nat → Int32)} {t d D : Nat} {Q : sm_Q} {I : sm_MI} {J : sm_MJ} {x1 : Int32} {rz : Int32} {Iz : sm_MI}
    (hD : 4 ≤ D) (h : F_Mo_transposed x1 I = some (rz, Iz)) (hQ : Q (.inl (some (.int rz))) (Iz, J, sm_rf t d))  : sm_W sm_sh X (sm_C sm_sh X sm_P D) me_237 Q (0, [some (.ref 61), some (.int x1), none, none], [], 0, 0) (I, J, sm_rf t d) := by
  unfold F_Mo_transposed at h
  refine sm_W.runL (sm_C_mono D) 3 (G := True) (e := (sd_up I 61 0 (0 : Int32))) (fr' := fun _ => (3, [some (.ref 61), some (.int x1), none, none], [], 0, 0)) (M' := fun I1 => (I1, J, sm_rf t d)) rfl h trivial (fun I1 h => ?_)
  refine sm_W.run (sm_C_mono D) 2 (G := True) (fr' := (5, [some (.ref 61), some (.int x1), none, none], [.int x1, .ref 61], 0, 0)) (M' := (I1, J, sm_rf t d)) rfl trivial ?_
  obtain ⟨r2, I3, hc, h⟩ := sd_q2_go h
  refine sm_W.cal (sm_C_mono D) (y := 205) (as := [.ref 61, .int x1]) (fr' := (6, [some (.ref 61), some (.int x1), none, none], [], 0, 0)) rfl (T_Mo_isPiece (by omega) hc ?_)
  show sm_W sm_sh X (sm_C sm_sh X sm_P D) me_237 Q (6, [some (.ref 61), some (.int x1), none, none], [.int r2], 0, 0) (I3, J, sm_rf t d)
  refine sm_W.run (sm_C_mono D) 1 (G := True) (fr' := (if decide (¬ r2 = 0) = true then 9 else 7, [some (.ref 61), some (.int x1), none, none], [], 0, 0)) (M' := (I3, J, sm_rf t d)) rfl trivial (sm_W.iteD h (fun hc h => ?_) (fun hc h => ?_))
  · refine sm_W.run (sm_C_mono D) 2 (G := True) (fr' := (11, [some (.ref 61), some (.int x1), some (.int (0 : Int32)), none], [], 0, 0)) (M' := (I3, J, sm_rf t d)) rfl trivial ?_
    exact (G_Mo_transposed_11 hD hQ sd_fu _ _ _ h)
  · refine sm_W.run (sm_C_mono D) 1 (G := True) (fr' := (8, [some (.ref 61), some (.int x1), none, none], [.int (0 : Int32)], 0, 0)) (M' := (I3, J, sm_rf t d)) rfl trivial ?_
    cases h
    exact sm_W.ret (sm_C_mono D) rfl hQ
theorem T_Mo_transposed {X : Nat × (Nat → Int32)} {t d D : Nat} {Q : sm_Q} {I : sm_MI} {J : sm_MJ} {x1 : Int32} {rz : Int32} {Iz : sm_MI}
    (hD : 5 ≤ D) (h : F_Mo_transposed x1 I = some (rz, Iz)) (hQ : Q (.inl (some (.int rz))) (Iz, J, sm_rf t d)) : sm_C sm_sh X sm_P D 237 [.ref 61, .int x1] (I, J, sm_rf t d) Q := by
  cases D with
  | zero => omega
  | succ D => exact sm_C.of (me := me_237) (L := [some (.ref 61), some (.int x1), none, none]) rfl rfl rfl (sm_W.forget (L' := [some (.ref 61), some (.int x1), none, none]) ⟨rfl, ⟨rfl, trivial⟩⟩ (G_Mo_transposed (by omega) h hQ))
-- 238 Mo_standIns
noncomputable def F_Mo_standIns_13B (k13 : Int32 → Int32 → Int32 → sm_MI → Option (Int32 × sm_MI)) (x1 : Int32) (x2 : Int32) (x3 : Int32) (I : sm_MI) : Option (Int32 × sm_MI) :=
  if (I 61 1) ≤ x3 then
    some (x2, I)
  else
    if x3 = x1 then
      sd_lt (x2 ||| (0 : Int32)) fun a1 =>
      k13 x1 a1 (x3 + (1 : Int32)) I
    else
      sd_gu (sm_in x3 14 = true) <|
      sd_gu (sm_in x1 14 = true) <|
      if ¬ (I 63 (Int32.toNatClampNeg x3)) = (I 63 (Int32.toNatClampNeg x1)) then
        sd_lt (x2 ||| (0 : Int32)) fun a4 =>
        k13 x1 a4 (x3 + (1 : Int32)) I
      else
        sd_gu (sm_in x3 14 = true) <|
        sd_gu (sm_in x1 14 = true) <|
        if (I 64 (Int32.toNatClampNeg x1)) < (I 64 (Int32.toNatClampNeg x3)) then
          sd_lt (x2 ||| (0 : Int32)) fun a7 =>
          k13 x1 a7 (x3 + (1 : Int32)) I
        else
          sd_gu (sm_in x3 14 = true) <|
          sd_gu (sm_in x1 14 = true) <|
          if (I 65 (Int32.toNatClampNeg x3)) < (I 65 (Int32.toNatClampNeg x1)) then
            sd_lt (x2 ||| (0 : Int32)) fun a10 =>
            k13 x1 a10 (x3 + (1 : Int32)) I
          else
            sd_lt (x2 ||| ((1 : Int32) <<< (x3 &&& 31))) fun a11 =>
            k13 x1 a11 (x3 + (1 : Int32)) I
noncomputable def F_Mo_standIns_13  (n : Nat) : Int32 → Int32 → Int32 → sm_MI → Option (Int32 × sm_MI) :=
  sd_fix (fun k x1 x2 x3 I => F_Mo_standIns_13B k x1 x2 x3 I) (fun _ _ _ _ => none) n
noncomputable def F_Mo_standIns (x1 : Int32) (I : sm_MI) : Option (Int32 × sm_MI) :=
  sd_lt (sd_up I 61 0 (0 : Int32)) fun I1 =>
  sd_q2 (F_Mo_isSinger x1 I1) fun r2 I3 =>
  if ¬ r2 = 0 then
    F_Mo_standIns_13 sd_fu x1 (0 : Int32) (0 : Int32) I3
  else
    some ((0 : Int32), I3)
theorem G_Mo_standIns_13B {X : Nat × (Nat → Int32)} {t d D : Nat} {Q : sm_Q} {I : sm_MI} {J : sm_MJ} {k13 : Int32 → Int32 → Int32 → sm_MI → Option (Int32 × sm_MI)} {x1 : Int32} {x2 : Int32} {x3 : Int32} {rz : Int32} {Iz : sm_MI}
    (hD : 2 ≤ D) (h : F_Mo_standIns_13B k13 x1 x2 x3 I = some (rz, Iz)) (hQ : Q (.inl (some (.int rz))) (Iz, J, sm_rf t d)) (hk13 : ∀ (x1 : Int32) (x2 : Int32) (x3 : Int32) (I : sm_MI), k13 x1 x2 x3 I = some (rz, Iz) → sm_W sm_sh X (sm_C sm_sh X sm_P D) me_238 Q (13, [some (.ref 61), some (.int x1), some (.int x2), some (.int x3)], [], 0, 0) (I, J, sm_rf t d)) : sm_W sm_sh X (sm_C sm_sh X sm_P D) me_238 Q (13, [some (.ref 61), some (.int x1), some (.int x2), some (.int x3)], [], 0, 0) (I, J, sm_rf t d) := by
  unfold F_Mo_standIns_13B at h
  refine sm_W.run (sm_C_mono D) 4 (G := True) (fr' := (if decide ((I 61 1) ≤ x3) = true then 57 else 17, [some (.ref 61), some (.int x1), some (.int x2), some (.int x3)], [], 0, 0)) (M' := (I, J, sm_rf t d)) rfl trivial (sm_W.iteD h (fun hc h => ?_) (fun hc h => ?_))
  · refine sm_W.run (sm_C_mono D) 1 (G := True) (fr' := (58, [some (.ref 61), some (.int x1), some (.int x2), some (.int x3)], [.int x2], 0, 0)) (M' := (I, J, sm_rf t d)) rfl trivial ?_
    cases h
    exact sm_W.ret (sm_C_mono D) rfl hQ
  · refine sm_W.run (sm_C_mono D) 4 (G := True) (fr' := (if decide (x3 = x1) = true then 52 else 21, [some (.ref 61), some (.int x1), some (.int x2), some (.int x3)], [.int x2], 0, 0)) (M' := (I, J, sm_rf t d)) rfl trivial (sm_W.iteD h (fun hc h => ?_) (fun hc h => ?_))
    · refine sm_W.runL (sm_C_mono D) 3 (G := True) (e := (x2 ||| (0 : Int32))) (fr' := fun a1 => (55, [some (.ref 61), some (.int x1), some (.int a1), some (.int x3)], [], 0, 0)) (M' := fun _ => (I, J, sm_rf t d)) rfl h trivial (fun a1 h => ?_)
      refine sm_W.run (sm_C_mono D) 2 (G := True) (fr' := (13, [some (.ref 61), some (.int x1), some (.int a1), some (.int (x3 + (1 : Int32)))], [], 0, 0)) (M' := (I, J, sm_rf t d)) rfl trivial ?_
      exact (hk13 _ _ _ _ h)
    · obtain ⟨g2, h⟩ := sd_gu_go h
      obtain ⟨g3, h⟩ := sd_gu_go h
      refine sm_W.run (sm_C_mono D) 9 (G := sm_in x3 14 = true ∧ sm_in x1 14 = true ∧ True) (fr' := (if decide (¬ (I 63 (Int32.toNatClampNeg x3)) = (I 63 (Int32.toNatClampNeg x1))) = true then 52 else 30, [some (.ref 61), some (.int x1), some (.int x2), some (.int x3)], [.int x2], 0, 0)) (M' := (I, J, sm_rf t d)) rfl ⟨g2, g3, trivial⟩ (sm_W.iteD h (fun hc h => ?_) (fun hc h => ?_))
      · refine sm_W.runL (sm_C_mono D) 3 (G := True) (e := (x2 ||| (0 : Int32))) (fr' := fun a4 => (55, [some (.ref 61), some (.int x1), some (.int a4), some (.int x3)], [], 0, 0)) (M' := fun _ => (I, J, sm_rf t d)) rfl h trivial (fun a4 h => ?_)
        refine sm_W.run (sm_C_mono D) 2 (G := True) (fr' := (13, [some (.ref 61), some (.int x1), some (.int a4), some (.int (x3 + (1 : Int32)))], [], 0, 0)) (M' := (I, J, sm_rf t d)) rfl trivial ?_
        exact (hk13 _ _ _ _ h)
      · obtain ⟨g5, h⟩ := sd_gu_go h
        obtain ⟨g6, h⟩ := sd_gu_go h
        refine sm_W.run (sm_C_mono D) 9 (G := sm_in x3 14 = true ∧ sm_in x1 14 = true ∧ True) (fr' := (if decide ((I 64 (Int32.toNatClampNeg x1)) < (I 64 (Int32.toNatClampNeg x3))) = true then 52 else 39, [some (.ref 61), some (.int x1), some (.int x2), some (.int x3)], [.int x2], 0, 0)) (M' := (I, J, sm_rf t d)) rfl ⟨g5, g6, trivial⟩ (sm_W.iteD h (fun hc h => ?_) (fun hc h => ?_))
        · refine sm_W.runL (sm_C_mono D) 3 (G := True) (e := (x2 ||| (0 : Int32))) (fr' := fun a7 => (55, [some (.ref 61), some (.int x1), some (.int a7), some (.int x3)], [], 0, 0)) (M' := fun _ => (I, J, sm_rf t d)) rfl h trivial (fun a7 h => ?_)
          refine sm_W.run (sm_C_mono D) 2 (G := True) (fr' := (13, [some (.ref 61), some (.int x1), some (.int a7), some (.int (x3 + (1 : Int32)))], [], 0, 0)) (M' := (I, J, sm_rf t d)) rfl trivial ?_
          exact (hk13 _ _ _ _ h)
        · obtain ⟨g8, h⟩ := sd_gu_go h
          obtain ⟨g9, h⟩ := sd_gu_go h
          refine sm_W.run (sm_C_mono D) 9 (G := sm_in x3 14 = true ∧ sm_in x1 14 = true ∧ True) (fr' := (if decide ((I 65 (Int32.toNatClampNeg x3)) < (I 65 (Int32.toNatClampNeg x1))) = true then 52 else 48, [some (.ref 61), some (.int x1), some (.int x2), some (.int x3)], [.int x2], 0, 0)) (M' := (I, J, sm_rf t d)) rfl ⟨g8, g9, trivial⟩ (sm_W.iteD h (fun hc h => ?_) (fun hc h => ?_))
          · refine sm_W.runL (sm_C_mono D) 3 (G := True) (e := (x2 ||| (0 : Int32))) (fr' := fun a10 => (55, [some (.ref 61), some (.int x1), some (.int a10), some (.int x3)], [], 0, 0)) (M' := fun _ => (I, J, sm_rf t d)) rfl h trivial (fun a10 h => ?_)
            refine sm_W.run (sm_C_mono D) 2 (G := True) (fr' := (13, [some (.ref 61), some (.int x1), some (.int a10), some (.int (x3 + (1 : Int32)))], [], 0, 0)) (M' := (I, J, sm_rf t d)) rfl trivial ?_
            exact (hk13 _ _ _ _ h)
          · refine sm_W.runL (sm_C_mono D) 6 (G := True) (e := (x2 ||| ((1 : Int32) <<< (x3 &&& 31)))) (fr' := fun a11 => (55, [some (.ref 61), some (.int x1), some (.int a11), some (.int x3)], [], 0, 0)) (M' := fun _ => (I, J, sm_rf t d)) rfl h trivial (fun a11 h => ?_)
            refine sm_W.run (sm_C_mono D) 2 (G := True) (fr' := (13, [some (.ref 61), some (.int x1), some (.int a11), some (.int (x3 + (1 : Int32)))], [], 0, 0)) (M' := (I, J, sm_rf t d)) rfl trivial ?_
            exact (hk13 _ _ _ _ h)
theorem G_Mo_standIns_13 {X : Nat × (Nat → Int32)} {t d D : Nat} {Q : sm_Q} {J : sm_MJ} {rz : Int32} {Iz : sm_MI}
    (hD : 2 ≤ D) (hQ : Q (.inl (some (.int rz))) (Iz, J, sm_rf t d))  : ∀ (n : Nat) (x1 : Int32) (x2 : Int32) (x3 : Int32) (I : sm_MI), F_Mo_standIns_13 n x1 x2 x3 I = some (rz, Iz) → sm_W sm_sh X (sm_C sm_sh X sm_P D) me_238 Q (13, [some (.ref 61), some (.int x1), some (.int x2), some (.int x3)], [], 0, 0) (I, J, sm_rf t d) := by
  intro n
  induction n with
  | zero => intro x1 x2 x3 I h; cases (show (none : Option (Int32 × sm_MI)) = some (rz, Iz) from h)
  | succ n ih => intro x1 x2 x3 I h; exact G_Mo_standIns_13B hD (show F_Mo_standIns_13B (F_Mo_standIns_13 n) x1 x2 x3 I = some (rz, Iz) from h) hQ  ih
theorem G_Mo_standIns {X : Nat × (Nat → Int32)} {t d D : Nat} {Q : sm_Q} {I : sm_MI} {J : sm_MJ} {x1 : Int32} {rz : Int32} {Iz : sm_MI}
    (hD : 2 ≤ D) (h : F_Mo_standIns x1 I = some (rz, Iz)) (hQ : Q (.inl (some (.int rz))) (Iz, J, sm_rf t d))  : sm_W sm_sh X (sm_C sm_sh X sm_P D) me_238 Q (0, [some (.ref 61), some (.int x1), none, none], [], 0, 0) (I, J, sm_rf t d) := by
  unfold F_Mo_standIns at h
  refine sm_W.runL (sm_C_mono D) 3 (G := True) (e := (sd_up I 61 0 (0 : Int32))) (fr' := fun _ => (3, [some (.ref 61), some (.int x1), none, none], [], 0, 0)) (M' := fun I1 => (I1, J, sm_rf t d)) rfl h trivial (fun I1 h => ?_)
  refine sm_W.run (sm_C_mono D) 2 (G := True) (fr' := (5, [some (.ref 61), some (.int x1), none, none], [.int x1, .ref 61], 0, 0)) (M' := (I1, J, sm_rf t d)) rfl trivial ?_
  obtain ⟨r2, I3, hc, h⟩ := sd_q2_go h
  refine sm_W.cal (sm_C_mono D) (y := 204) (as := [.ref 61, .int x1]) (fr' := (6, [some (.ref 61), some (.int x1), none, none], [], 0, 0)) rfl (T_Mo_isSinger (by omega) hc ?_)
  show sm_W sm_sh X (sm_C sm_sh X sm_P D) me_238 Q (6, [some (.ref 61), some (.int x1), none, none], [.int r2], 0, 0) (I3, J, sm_rf t d)
  refine sm_W.run (sm_C_mono D) 1 (G := True) (fr' := (if decide (¬ r2 = 0) = true then 9 else 7, [some (.ref 61), some (.int x1), none, none], [], 0, 0)) (M' := (I3, J, sm_rf t d)) rfl trivial (sm_W.iteD h (fun hc h => ?_) (fun hc h => ?_))
  · refine sm_W.run (sm_C_mono D) 4 (G := True) (fr' := (13, [some (.ref 61), some (.int x1), some (.int (0 : Int32)), some (.int (0 : Int32))], [], 0, 0)) (M' := (I3, J, sm_rf t d)) rfl trivial ?_
    exact (G_Mo_standIns_13 hD hQ sd_fu _ _ _ _ h)
  · refine sm_W.run (sm_C_mono D) 1 (G := True) (fr' := (8, [some (.ref 61), some (.int x1), none, none], [.int (0 : Int32)], 0, 0)) (M' := (I3, J, sm_rf t d)) rfl trivial ?_
    cases h
    exact sm_W.ret (sm_C_mono D) rfl hQ
theorem T_Mo_standIns {X : Nat × (Nat → Int32)} {t d D : Nat} {Q : sm_Q} {I : sm_MI} {J : sm_MJ} {x1 : Int32} {rz : Int32} {Iz : sm_MI}
    (hD : 3 ≤ D) (h : F_Mo_standIns x1 I = some (rz, Iz)) (hQ : Q (.inl (some (.int rz))) (Iz, J, sm_rf t d)) : sm_C sm_sh X sm_P D 238 [.ref 61, .int x1] (I, J, sm_rf t d) Q := by
  cases D with
  | zero => omega
  | succ D => exact sm_C.of (me := me_238) (L := [some (.ref 61), some (.int x1), none, none]) rfl rfl rfl (sm_W.forget (L' := [some (.ref 61), some (.int x1), none, none]) ⟨rfl, ⟨rfl, trivial⟩⟩ (G_Mo_standIns (by omega) h hQ))
-- 239 Mo_voices
noncomputable def F_Mo_voices_19B (k19 : Int32 → Int32 → Int32 → Int32 → sm_MI → Option (Int32 × sm_MI)) (x1 : Int32) (x2 : Int32) (x3 : Int32) (x4 : Int32) (I : sm_MI) : Option (Int32 × sm_MI) :=
  if (I 61 1) ≤ x4 then
    some (x3, I)
  else
    sd_gu (sm_in x4 16 = true) <|
    if ¬ (I 86 (Int32.toNatClampNeg x4)) = 0 then
      sd_lt (x3 + (0 : Int32)) fun a2 =>
      k19 x1 x2 a2 (x4 + (1 : Int32)) I
    else
      sd_gu (sm_in x4 14 = true) <|
      if ¬ (I 62 (Int32.toNatClampNeg x4)) = x1 then
        sd_lt (x3 + (0 : Int32)) fun a4 =>
        k19 x1 x2 a4 (x4 + (1 : Int32)) I
      else
        sd_gu (sm_in x4 14 = true) <|
        if ¬ (I 63 (Int32.toNatClampNeg x4)) = x2 then
          sd_lt (x3 + (0 : Int32)) fun a6 =>
          k19 x1 x2 a6 (x4 + (1 : Int32)) I
        else
          sd_lt (x3 + (1 : Int32)) fun a7 =>
          k19 x1 x2 a7 (x4 + (1 : Int32)) I
noncomputable def F_Mo_voices_19  (n : Nat) : Int32 → Int32 → Int32 → Int32 → sm_MI → Option (Int32 × sm_MI) :=
  sd_fix (fun k x1 x2 x3 x4 I => F_Mo_voices_19B k x1 x2 x3 x4 I) (fun _ _ _ _ _ => none) n
noncomputable def F_Mo_voices (x1 : Int32) (x2 : Int32) (I : sm_MI) : Option (Int32 × sm_MI) :=
  sd_lt (sd_up I 61 0 (0 : Int32)) fun I1 =>
  sd_q2 (F_Mo_isWhat x1 (2 : Int32) I1) fun r2 I3 =>
  if r2 = 0 then
    some ((0 : Int32), I3)
  else
    sd_q2 (F_Mo_isWhat x2 (3 : Int32) I3) fun r4 I5 =>
    if ¬ r4 = 0 then
      F_Mo_voices_19 sd_fu x1 x2 (0 : Int32) (0 : Int32) I5
    else
      some ((0 : Int32), I5)
theorem G_Mo_voices_19B {X : Nat × (Nat → Int32)} {t d D : Nat} {Q : sm_Q} {I : sm_MI} {J : sm_MJ} {k19 : Int32 → Int32 → Int32 → Int32 → sm_MI → Option (Int32 × sm_MI)} {x1 : Int32} {x2 : Int32} {x3 : Int32} {x4 : Int32} {rz : Int32} {Iz : sm_MI}
    (hD : 2 ≤ D) (h : F_Mo_voices_19B k19 x1 x2 x3 x4 I = some (rz, Iz)) (hQ : Q (.inl (some (.int rz))) (Iz, J, sm_rf t d)) (hk19 : ∀ (x1 : Int32) (x2 : Int32) (x3 : Int32) (x4 : Int32) (I : sm_MI), k19 x1 x2 x3 x4 I = some (rz, Iz) → sm_W sm_sh X (sm_C sm_sh X sm_P D) me_239 Q (19, [some (.ref 61), some (.int x1), some (.int x2), some (.int x3), some (.int x4)], [], 0, 0) (I, J, sm_rf t d)) : sm_W sm_sh X (sm_C sm_sh X sm_P D) me_239 Q (19, [some (.ref 61), some (.int x1), some (.int x2), some (.int x3), some (.int x4)], [], 0, 0) (I, J, sm_rf t d) := by
  unfold F_Mo_voices_19B at h
  refine sm_W.run (sm_C_mono D) 4 (G := True) (fr' := (if decide ((I 61 1) ≤ x4) = true then 48 else 23, [some (.ref 61), some (.int x1), some (.int x2), some (.int x3), some (.int x4)], [], 0, 0)) (M' := (I, J, sm_rf t d)) rfl trivial (sm_W.iteD h (fun hc h => ?_) (fun hc h => ?_))
  · refine sm_W.run (sm_C_mono D) 1 (G := True) (fr' := (49, [some (.ref 61), some (.int x1), some (.int x2), some (.int x3), some (.int x4)], [.int x3], 0, 0)) (M' := (I, J, sm_rf t d)) rfl trivial ?_
    cases h
    exact sm_W.ret (sm_C_mono D) rfl hQ
  · obtain ⟨g1, h⟩ := sd_gu_go h
    refine sm_W.run (sm_C_mono D) 6 (G := sm_in x4 16 = true ∧ True) (fr' := (if decide (¬ (I 86 (Int32.toNatClampNeg x4)) = 0) = true then 43 else 29, [some (.ref 61), some (.int x1), some (.int x2), some (.int x3), some (.int x4)], [.int x3], 0, 0)) (M' := (I, J, sm_rf t d)) rfl ⟨g1, trivial⟩ (sm_W.iteD h (fun hc h => ?_) (fun hc h => ?_))
    · refine sm_W.runL (sm_C_mono D) 3 (G := True) (e := (x3 + (0 : Int32))) (fr' := fun a2 => (46, [some (.ref 61), some (.int x1), some (.int x2), some (.int a2), some (.int x4)], [], 0, 0)) (M' := fun _ => (I, J, sm_rf t d)) rfl h trivial (fun a2 h => ?_)
      refine sm_W.run (sm_C_mono D) 2 (G := True) (fr' := (19, [some (.ref 61), some (.int x1), some (.int x2), some (.int a2), some (.int (x4 + (1 : Int32)))], [], 0, 0)) (M' := (I, J, sm_rf t d)) rfl trivial ?_
      exact (hk19 _ _ _ _ _ h)
    · obtain ⟨g3, h⟩ := sd_gu_go h
      refine sm_W.run (sm_C_mono D) 6 (G := sm_in x4 14 = true ∧ True) (fr' := (if decide (¬ (I 62 (Int32.toNatClampNeg x4)) = x1) = true then 43 else 35, [some (.ref 61), some (.int x1), some (.int x2), some (.int x3), some (.int x4)], [.int x3], 0, 0)) (M' := (I, J, sm_rf t d)) rfl ⟨g3, trivial⟩ (sm_W.iteD h (fun hc h => ?_) (fun hc h => ?_))
      · refine sm_W.runL (sm_C_mono D) 3 (G := True) (e := (x3 + (0 : Int32))) (fr' := fun a4 => (46, [some (.ref 61), some (.int x1), some (.int x2), some (.int a4), some (.int x4)], [], 0, 0)) (M' := fun _ => (I, J, sm_rf t d)) rfl h trivial (fun a4 h => ?_)
        refine sm_W.run (sm_C_mono D) 2 (G := True) (fr' := (19, [some (.ref 61), some (.int x1), some (.int x2), some (.int a4), some (.int (x4 + (1 : Int32)))], [], 0, 0)) (M' := (I, J, sm_rf t d)) rfl trivial ?_
        exact (hk19 _ _ _ _ _ h)
      · obtain ⟨g5, h⟩ := sd_gu_go h
        refine sm_W.run (sm_C_mono D) 6 (G := sm_in x4 14 = true ∧ True) (fr' := (if decide (¬ (I 63 (Int32.toNatClampNeg x4)) = x2) = true then 43 else 41, [some (.ref 61), some (.int x1), some (.int x2), some (.int x3), some (.int x4)], [.int x3], 0, 0)) (M' := (I, J, sm_rf t d)) rfl ⟨g5, trivial⟩ (sm_W.iteD h (fun hc h => ?_) (fun hc h => ?_))
        · refine sm_W.runL (sm_C_mono D) 3 (G := True) (e := (x3 + (0 : Int32))) (fr' := fun a6 => (46, [some (.ref 61), some (.int x1), some (.int x2), some (.int a6), some (.int x4)], [], 0, 0)) (M' := fun _ => (I, J, sm_rf t d)) rfl h trivial (fun a6 h => ?_)
          refine sm_W.run (sm_C_mono D) 2 (G := True) (fr' := (19, [some (.ref 61), some (.int x1), some (.int x2), some (.int a6), some (.int (x4 + (1 : Int32)))], [], 0, 0)) (M' := (I, J, sm_rf t d)) rfl trivial ?_
          exact (hk19 _ _ _ _ _ h)
        · refine sm_W.runL (sm_C_mono D) 4 (G := True) (e := (x3 + (1 : Int32))) (fr' := fun a7 => (46, [some (.ref 61), some (.int x1), some (.int x2), some (.int a7), some (.int x4)], [], 0, 0)) (M' := fun _ => (I, J, sm_rf t d)) rfl h trivial (fun a7 h => ?_)
          refine sm_W.run (sm_C_mono D) 2 (G := True) (fr' := (19, [some (.ref 61), some (.int x1), some (.int x2), some (.int a7), some (.int (x4 + (1 : Int32)))], [], 0, 0)) (M' := (I, J, sm_rf t d)) rfl trivial ?_
          exact (hk19 _ _ _ _ _ h)
theorem G_Mo_voices_19 {X : Nat × (Nat → Int32)} {t d D : Nat} {Q : sm_Q} {J : sm_MJ} {rz : Int32} {Iz : sm_MI}
    (hD : 2 ≤ D) (hQ : Q (.inl (some (.int rz))) (Iz, J, sm_rf t d))  : ∀ (n : Nat) (x1 : Int32) (x2 : Int32) (x3 : Int32) (x4 : Int32) (I : sm_MI), F_Mo_voices_19 n x1 x2 x3 x4 I = some (rz, Iz) → sm_W sm_sh X (sm_C sm_sh X sm_P D) me_239 Q (19, [some (.ref 61), some (.int x1), some (.int x2), some (.int x3), some (.int x4)], [], 0, 0) (I, J, sm_rf t d) := by
  intro n
  induction n with
  | zero => intro x1 x2 x3 x4 I h; cases (show (none : Option (Int32 × sm_MI)) = some (rz, Iz) from h)
  | succ n ih => intro x1 x2 x3 x4 I h; exact G_Mo_voices_19B hD (show F_Mo_voices_19B (F_Mo_voices_19 n) x1 x2 x3 x4 I = some (rz, Iz) from h) hQ  ih
theorem G_Mo_voices {X : Nat × (Nat → Int32)} {t d D : Nat} {Q : sm_Q} {I : sm_MI} {J : sm_MJ} {x1 : Int32} {x2 : Int32} {rz : Int32} {Iz : sm_MI}
    (hD : 2 ≤ D) (h : F_Mo_voices x1 x2 I = some (rz, Iz)) (hQ : Q (.inl (some (.int rz))) (Iz, J, sm_rf t d))  : sm_W sm_sh X (sm_C sm_sh X sm_P D) me_239 Q (0, [some (.ref 61), some (.int x1), some (.int x2), none, none], [], 0, 0) (I, J, sm_rf t d) := by
  unfold F_Mo_voices at h
  refine sm_W.runL (sm_C_mono D) 3 (G := True) (e := (sd_up I 61 0 (0 : Int32))) (fr' := fun _ => (3, [some (.ref 61), some (.int x1), some (.int x2), none, none], [], 0, 0)) (M' := fun I1 => (I1, J, sm_rf t d)) rfl h trivial (fun I1 h => ?_)
  refine sm_W.run (sm_C_mono D) 3 (G := True) (fr' := (6, [some (.ref 61), some (.int x1), some (.int x2), none, none], [.int (2 : Int32), .int x1, .ref 61], 0, 0)) (M' := (I1, J, sm_rf t d)) rfl trivial ?_
  obtain ⟨r2, I3, hc, h⟩ := sd_q2_go h
  refine sm_W.cal (sm_C_mono D) (y := 206) (as := [.ref 61, .int x1, .int (2 : Int32)]) (fr' := (7, [some (.ref 61), some (.int x1), some (.int x2), none, none], [], 0, 0)) rfl (T_Mo_isWhat (by omega) hc ?_)
  show sm_W sm_sh X (sm_C sm_sh X sm_P D) me_239 Q (7, [some (.ref 61), some (.int x1), some (.int x2), none, none], [.int r2], 0, 0) (I3, J, sm_rf t d)
  refine sm_W.run (sm_C_mono D) 1 (G := True) (fr' := (if decide (r2 = 0) = true then 13 else 8, [some (.ref 61), some (.int x1), some (.int x2), none, none], [], 0, 0)) (M' := (I3, J, sm_rf t d)) rfl trivial (sm_W.iteD h (fun hc h => ?_) (fun hc h => ?_))
  · refine sm_W.run (sm_C_mono D) 1 (G := True) (fr' := (14, [some (.ref 61), some (.int x1), some (.int x2), none, none], [.int (0 : Int32)], 0, 0)) (M' := (I3, J, sm_rf t d)) rfl trivial ?_
    cases h
    exact sm_W.ret (sm_C_mono D) rfl hQ
  · refine sm_W.run (sm_C_mono D) 3 (G := True) (fr' := (11, [some (.ref 61), some (.int x1), some (.int x2), none, none], [.int (3 : Int32), .int x2, .ref 61], 0, 0)) (M' := (I3, J, sm_rf t d)) rfl trivial ?_
    obtain ⟨r4, I5, hc, h⟩ := sd_q2_go h
    refine sm_W.cal (sm_C_mono D) (y := 206) (as := [.ref 61, .int x2, .int (3 : Int32)]) (fr' := (12, [some (.ref 61), some (.int x1), some (.int x2), none, none], [], 0, 0)) rfl (T_Mo_isWhat (by omega) hc ?_)
    show sm_W sm_sh X (sm_C sm_sh X sm_P D) me_239 Q (12, [some (.ref 61), some (.int x1), some (.int x2), none, none], [.int r4], 0, 0) (I5, J, sm_rf t d)
    refine sm_W.run (sm_C_mono D) 1 (G := True) (fr' := (if decide (¬ r4 = 0) = true then 15 else 13, [some (.ref 61), some (.int x1), some (.int x2), none, none], [], 0, 0)) (M' := (I5, J, sm_rf t d)) rfl trivial (sm_W.iteD h (fun hc h => ?_) (fun hc h => ?_))
    · refine sm_W.run (sm_C_mono D) 4 (G := True) (fr' := (19, [some (.ref 61), some (.int x1), some (.int x2), some (.int (0 : Int32)), some (.int (0 : Int32))], [], 0, 0)) (M' := (I5, J, sm_rf t d)) rfl trivial ?_
      exact (G_Mo_voices_19 hD hQ sd_fu _ _ _ _ _ h)
    · refine sm_W.run (sm_C_mono D) 1 (G := True) (fr' := (14, [some (.ref 61), some (.int x1), some (.int x2), none, none], [.int (0 : Int32)], 0, 0)) (M' := (I5, J, sm_rf t d)) rfl trivial ?_
      cases h
      exact sm_W.ret (sm_C_mono D) rfl hQ
theorem T_Mo_voices {X : Nat × (Nat → Int32)} {t d D : Nat} {Q : sm_Q} {I : sm_MI} {J : sm_MJ} {x1 : Int32} {x2 : Int32} {rz : Int32} {Iz : sm_MI}
    (hD : 3 ≤ D) (h : F_Mo_voices x1 x2 I = some (rz, Iz)) (hQ : Q (.inl (some (.int rz))) (Iz, J, sm_rf t d)) : sm_C sm_sh X sm_P D 239 [.ref 61, .int x1, .int x2] (I, J, sm_rf t d) Q := by
  cases D with
  | zero => omega
  | succ D => exact sm_C.of (me := me_239) (L := [some (.ref 61), some (.int x1), some (.int x2), none, none]) rfl rfl rfl (sm_W.forget (L' := [some (.ref 61), some (.int x1), some (.int x2), none, none]) ⟨rfl, ⟨rfl, ⟨rfl, trivial⟩⟩⟩ (G_Mo_voices (by omega) h hQ))
