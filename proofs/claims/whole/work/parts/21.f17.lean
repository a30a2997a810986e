/-! ===== printed by wip/gen/emit_parts.py: what the methods compute ===== -/
-- 255 Mo_codesOf
noncomputable def F_Mo_codesOf_10B (k10 : Int32 → Int32 → Int64 → Int64 → Int32 → Option (Int64)) (x2 : Int32) (x3 : Int32) (x4 : Int64) (x6 : Int64) (x8 : Int32) (I : sm_MI) : Option (Int64) :=
  if x2 < x8 then
    some (x4)
  else
    if x3 < x8 then
      some (x4)
    else
      sd_lt (x4 + x6) fun a1 =>
      sd_gu (¬ ((Int32.toInt64 x8) + (1 : Int64)) = 0) <|
      sd_lt (((x6 * (2 : Int64)) * (Int32.toInt64 (x3 - x8))) / ((Int32.toInt64 x8) + (1 : Int64))) fun a3 =>
      k10 x2 x3 a1 a3 (x8 + (1 : Int32))
noncomputable def F_Mo_codesOf_10 (I : sm_MI) (n : Nat) : Int32 → Int32 → Int64 → Int64 → Int32 → Option (Int64) :=
  sd_fix (fun k x2 x3 x4 x6 x8 => F_Mo_codesOf_10B k x2 x3 x4 x6 x8 I) (fun _ _ _ _ _ => none) n
noncomputable def F_Mo_codesOf (x1 : Int32) (x2 : Int32) (I : sm_MI) : Option (Int64) :=
  sd_q1 (F_Mo_notesIn x1 I) fun r1 =>
  F_Mo_codesOf_10 I sd_fu x2 r1 (0 : Int64) (1 : Int64) (0 : Int32)
theorem G_Mo_codesOf_10B {X : Nat × (Nat → Int32)} {t d D : Nat} {Q : sm_Q} {I : sm_MI} {J : sm_MJ} {k10 : Int32 → Int32 → Int64 → Int64 → Int32 → Option (Int64)} {x2 : Int32} {x3 : Int32} {x4 : Int64} {x6 : Int64} {x8 : Int32} {rz : Int64}
    (hD : 2 ≤ D) (h : F_Mo_codesOf_10B k10 x2 x3 x4 x6 x8 I = some (rz)) (hQ : Q (.inl (some (.long rz))) (I, J, sm_rf t d)) (hk10 : ∀ (x2 : Int32) (x3 : Int32) (x4 : Int64) (x6 : Int64) (x8 : Int32), k10 x2 x3 x4 x6 x8 = some (rz) → sm_W sm_sh X (sm_C sm_sh X sm_P D) me_255 Q (10, [none, none, some (.int x2), some (.int x3), some (.long x4), none, some (.long x6), none, some (.int x8)], [], 0, 0) (I, J, sm_rf t d)) : sm_W sm_sh X (sm_C sm_sh X sm_P D) me_255 Q (10, [none, none, some (.int x2), some (.int x3), some (.long x4), none, some (.long x6), none, some (.int x8)], [], 0, 0) (I, J, sm_rf t d) := by
  unfold F_Mo_codesOf_10B at h
  refine sm_W.run (sm_C_mono D) 3 (G := True) (fr' := (if decide (x2 < x8) = true then 36 else 13, [none, none, some (.int x2), some (.int x3), some (.long x4), none, some (.long x6), none, some (.int x8)], [], 0, 0)) (M' := (I, J, sm_rf t d)) rfl trivial (sm_W.iteD h (fun hc h => ?_) (fun hc h => ?_))
  · refine sm_W.run (sm_C_mono D) 1 (G := True) (fr' := (37, [none, none, some (.int x2), some (.int x3), some (.long x4), none, some (.long x6), none, some (.int x8)], [.long x4], 0, 0)) (M' := (I, J, sm_rf t d)) rfl trivial ?_
    cases h
    exact sm_W.ret (sm_C_mono D) rfl hQ
  · refine sm_W.run (sm_C_mono D) 3 (G := True) (fr' := (if decide (x3 < x8) = true then 36 else 16, [none, none, some (.int x2), some (.int x3), some (.long x4), none, some (.long x6), none, some (.int x8)], [], 0, 0)) (M' := (I, J, sm_rf t d)) rfl trivial (sm_W.iteD h (fun hc h => ?_) (fun hc h => ?_))
    · refine sm_W.run (sm_C_mono D) 1 (G := True) (fr' := (37, [none, none, some (.int x2), some (.int x3), some (.long x4), none, some (.long x6), none, some (.int x8)], [.long x4], 0, 0)) (M' := (I, J, sm_rf t d)) rfl trivial ?_
      cases h
      exact sm_W.ret (sm_C_mono D) rfl hQ
    · refine sm_W.runL (sm_C_mono D) 4 (G := True) (e := (x4 + x6)) (fr' := fun a1 => (20, [none, none, some (.int x2), some (.int x3), some (.long a1), none, some (.long x6), none, some (.int x8)], [], 0, 0)) (M' := fun _ => (I, J, sm_rf t d)) rfl h trivial (fun a1 h => ?_)
      obtain ⟨g2, h⟩ := sd_gu_go h
      refine sm_W.runL (sm_C_mono D) 14 (G := ¬ ((Int32.toInt64 x8) + (1 : Int64)) = 0 ∧ True) (e := (((x6 * (2 : Int64)) * (Int32.toInt64 (x3 - x8))) / ((Int32.toInt64 x8) + (1 : Int64)))) (fr' := fun a3 => (34, [none, none, some (.int x2), some (.int x3), some (.long a1), none, some (.long a3), none, some (.int x8)], [], 0, 0)) (M' := fun _ => (I, J, sm_rf t d)) rfl h ⟨g2, trivial⟩ (fun a3 h => ?_)
      refine sm_W.run (sm_C_mono D) 2 (G := True) (fr' := (10, [none, none, some (.int x2), some (.int x3), some (.long a1), none, some (.long a3), none, some (.int (x8 + (1 : Int32)))], [], 0, 0)) (M' := (I, J, sm_rf t d)) rfl trivial ?_
      exact (hk10 _ _ _ _ _ h)
theorem G_Mo_codesOf_10 {X : Nat × (Nat → Int32)} {t d D : Nat} {Q : sm_Q} {I : sm_MI} {J : sm_MJ} {rz : Int64}
    (hD : 2 ≤ D) (hQ : Q (.inl (some (.long rz))) (I, J, sm_rf t d))  : ∀ (n : Nat) (x2 : Int32) (x3 : Int32) (x4 : Int64) (x6 : Int64) (x8 : Int32), F_Mo_codesOf_10 I n x2 x3 x4 x6 x8 = some (rz) → sm_W sm_sh X (sm_C sm_sh X sm_P D) me_255 Q (10, [none, none, some (.int x2), some (.int x3), some (.long x4), none, some (.long x6), none, some (.int x8)], [], 0, 0) (I, J, sm_rf t d) := by
  intro n
  induction n with
  | zero => intro x2 x3 x4 x6 x8 h; cases (show (none : Option (Int64)) = some (rz) from h)
  | succ n ih => intro x2 x3 x4 x6 x8 h; exact G_Mo_codesOf_10B hD (show F_Mo_codesOf_10B (F_Mo_codesOf_10 I n) x2 x3 x4 x6 x8 I = some (rz) from h) hQ  ih
theorem G_Mo_codesOf {X : Nat × (Nat → Int32)} {t d D : Nat} {Q : sm_Q} {I : sm_MI} {J : sm_MJ} {x1 : Int32} {x2 : Int32} {rz : Int64}
    (hD : 2 ≤ D) (h : F_Mo_codesOf x1 x2 I = some (rz)) (hQ : Q (.inl (some (.long rz))) (I, J, sm_rf t d))  : sm_W sm_sh X (sm_C sm_sh X sm_P D) me_255 Q (0, [some (.ref 61), some (.int x1), some (.int x2), none, none, none, none, none, none], [], 0, 0) (I, J, sm_rf t d) := by
  unfold F_Mo_codesOf at h
  refine sm_W.run (sm_C_mono D) 2 (G := True) (fr' := (2, [some (.ref 61), some (.int x1), some (.int x2), none, none, none, none, none, none], [.int x1, .ref 61], 0, 0)) (M' := (I, J, sm_rf t d)) rfl trivial ?_
  obtain ⟨r1, hc, h⟩ := sd_q1_go h
  refine sm_W.cal (sm_C_mono D) (y := 254) (as := [.ref 61, .int x1]) (fr' := (3, [some (.ref 61), some (.int x1), some (.int x2), none, none, none, none, none, none], [], 0, 0)) rfl (T_Mo_notesIn (by omega) hc ?_)
  show sm_W sm_sh X (sm_C sm_sh X sm_P D) me_255 Q (3, [some (.ref 61), some (.int x1), some (.int x2), none, none, none, none, none, none], [.int r1], 0, 0) (I, J, sm_rf t d)
  refine sm_W.run (sm_C_mono D) 7 (G := True) (fr' := (10, [some (.ref 61), some (.int x1), some (.int x2), some (.int r1), some (.long (0 : Int64)), none, some (.long (1 : Int64)), none, some (.int (0 : Int32))], [], 0, 0)) (M' := (I, J, sm_rf t d)) rfl trivial ?_
  exact sm_W.forget (L' := [none, none, some (.int x2), some (.int r1), some (.long (0 : Int64)), none, some (.long (1 : Int64)), none, some (.int (0 : Int32))]) ⟨rfl, ⟨rfl, ⟨rfl, ⟨rfl, ⟨rfl, trivial⟩⟩⟩⟩⟩ (G_Mo_codesOf_10 hD hQ sd_fu _ _ _ _ _ h)
theorem T_Mo_codesOf {X : Nat × (Nat → Int32)} {t d D : Nat} {Q : sm_Q} {I : sm_MI} {J : sm_MJ} {x1 : Int32} {x2 : Int32} {rz : Int64}
    (hD : 3 ≤ D) (h : F_Mo_codesOf x1 x2 I = some (rz)) (hQ : Q (.inl (some (.long rz))) (I, J, sm_rf t d)) : sm_C sm_sh X sm_P D 255 [.ref 61, .int x1, .int x2] (I, J, sm_rf t d) Q := by
  cases D with
  | zero => omega
  | succ D => exact sm_C.of (me := me_255) (L := [some (.ref 61), some (.int x1), some (.int x2), none, none, none, none, none, none]) rfl rfl rfl (sm_W.forget (L' := [some (.ref 61), some (.int x1), some (.int x2), none, none, none, none, none, none]) ⟨rfl, ⟨rfl, ⟨rfl, trivial⟩⟩⟩ (G_Mo_codesOf (by omega) h hQ))
-- 256 Mo_codes
noncomputable def F_Mo_codes (x1 : Int32) (x2 : Int32) (I : sm_MI) : Option (Int64 × sm_MI) :=
  sd_lt (sd_up I 61 0 (0 : Int32)) fun I1 =>
  sd_q2 (F_Mo_isPiece x1 I1) fun r2 I3 =>
  if r2 = 0 then
    some ((0 : Int64), I3)
  else
    sd_q1 (F_Mo_within x2 (0 : Int32) (12 : Int32)) fun r4 =>
    sd_q2 (F_Mo_right r4 (2 : Int32) I3) fun r5 I6 =>
    if r5 = 0 then
      some ((0 : Int64), I6)
    else
      sd_q1 (F_Mo_codesOf x1 x2 I6) fun r7 =>
      some (r7, I6)
theorem G_Mo_codes {X : Nat × (Nat → Int32)} {t d D : Nat} {Q : sm_Q} {I : sm_MI} {J : sm_MJ} {x1 : Int32} {x2 : Int32} {rz : Int64} {Iz : sm_MI}
    (hD : 3 ≤ D) (h : F_Mo_codes x1 x2 I = some (rz, Iz)) (hQ : Q (.inl (some (.long rz))) (Iz, J, sm_rf t d))  : sm_W sm_sh X (sm_C sm_sh X sm_P D) me_256 Q (0, [some (.ref 61), some (.int x1), some (.int x2)], [], 0, 0) (I, J, sm_rf t d) := by
  unfold F_Mo_codes at h
  refine sm_W.runL (sm_C_mono D) 3 (G := True) (e := (sd_up I 61 0 (0 : Int32))) (fr' := fun _ => (3, [some (.ref 61), some (.int x1), some (.int x2)], [], 0, 0)) (M' := fun I1 => (I1, J, sm_rf t d)) rfl h trivial (fun I1 h => ?_)
  refine sm_W.run (sm_C_mono D) 2 (G := True) (fr' := (5, [some (.ref 61), some (.int x1), some (.int x2)], [.int x1, .ref 61], 0, 0)) (M' := (I1, J, sm_rf t d)) rfl trivial ?_
  obtain ⟨r2, I3, hc, h⟩ := sd_q2_go h
  refine sm_W.cal (sm_C_mono D) (y := 205) (as := [.ref 61, .int x1]) (fr' := (6, [some (.ref 61), some (.int x1), some (.int x2)], [], 0, 0)) rfl (T_Mo_isPiece (by omega) hc ?_)
  show sm_W sm_sh X (sm_C sm_sh X sm_P D) me_256 Q (6, [some (.ref 61), some (.int x1), some (.int x2)], [.int r2], 0, 0) (I3, J, sm_rf t d)
  refine sm_W.run (sm_C_mono D) 1 (G := True) (fr' := (if decide (r2 = 0) = true then 20 else 7, [some (.ref 61), some (.int x1), some (.int x2)], [], 0, 0)) (M' := (I3, J, sm_rf t d)) rfl trivial (sm_W.iteD h (fun hc h => ?_) (fun hc h => ?_))
  · refine sm_W.run (sm_C_mono D) 1 (G := True) (fr' := (21, [some (.ref 61), some (.int x1), some (.int x2)], [.long (0 : Int64)], 0, 0)) (M' := (I3, J, sm_rf t d)) rfl trivial ?_
    cases h
    exact sm_W.ret (sm_C_mono D) rfl hQ
  · refine sm_W.run (sm_C_mono D) 4 (G := True) (fr' := (11, [some (.ref 61), some (.int x1), some (.int x2)], [.int (12 : Int32), .int (0 : Int32), .int x2, .ref 61], 0, 0)) (M' := (I3, J, sm_rf t d)) rfl trivial ?_
    obtain ⟨r4, hc, h⟩ := sd_q1_go h
    refine sm_W.cal (sm_C_mono D) (y := 159) (as := [.int x2, .int (0 : Int32), .int (12 : Int32)]) (fr' := (12, [some (.ref 61), some (.int x1), some (.int x2)], [.ref 61], 0, 0)) rfl (T_Mo_within (by omega) hc ?_)
    show sm_W sm_sh X (sm_C sm_sh X sm_P D) me_256 Q (12, [some (.ref 61), some (.int x1), some (.int x2)], [.int r4, .ref 61], 0, 0) (I3, J, sm_rf t d)
    refine sm_W.run (sm_C_mono D) 1 (G := True) (fr' := (13, [some (.ref 61), some (.int x1), some (.int x2)], [.int (2 : Int32), .int r4, .ref 61], 0, 0)) (M' := (I3, J, sm_rf t d)) rfl trivial ?_
    obtain ⟨r5, I6, hc, h⟩ := sd_q2_go h
    refine sm_W.cal (sm_C_mono D) (y := 158) (as := [.ref 61, .int r4, .int (2 : Int32)]) (fr' := (14, [some (.ref 61), some (.int x1), some (.int x2)], [], 0, 0)) rfl (T_Mo_right (by omega) hc ?_)
    show sm_W sm_sh X (sm_C sm_sh X sm_P D) me_256 Q (14, [some (.ref 61), some (.int x1), some (.int x2)], [.int r5], 0, 0) (I6, J, sm_rf t d)
    refine sm_W.run (sm_C_mono D) 1 (G := True) (fr' := (if decide (r5 = 0) = true then 20 else 15, [some (.ref 61), some (.int x1), some (.int x2)], [], 0, 0)) (M' := (I6, J, sm_rf t d)) rfl trivial (sm_W.iteD h (fun hc h => ?_) (fun hc h => ?_))
    · refine sm_W.run (sm_C_mono D) 1 (G := True) (fr' := (21, [some (.ref 61), some (.int x1), some (.int x2)], [.long (0 : Int64)], 0, 0)) (M' := (I6, J, sm_rf t d)) rfl trivial ?_
      cases h
      exact sm_W.ret (sm_C_mono D) rfl hQ
    · refine sm_W.run (sm_C_mono D) 3 (G := True) (fr' := (18, [some (.ref 61), some (.int x1), some (.int x2)], [.int x2, .int x1, .ref 61], 0, 0)) (M' := (I6, J, sm_rf t d)) rfl trivial ?_
      obtain ⟨r7, hc, h⟩ := sd_q1_go h
      refine sm_W.cal (sm_C_mono D) (y := 255) (as := [.ref 61, .int x1, .int x2]) (fr' := (19, [some (.ref 61), some (.int x1), some (.int x2)], [], 0, 0)) rfl (T_Mo_codesOf (by omega) hc ?_)
      show sm_W sm_sh X (sm_C sm_sh X sm_P D) me_256 Q (19, [some (.ref 61), some (.int x1), some (.int x2)], [.long r7], 0, 0) (I6, J, sm_rf t d)
      refine sm_W.run (sm_C_mono D) 1 (G := True) (fr' := (21, [some (.ref 61), some (.int x1), some (.int x2)], [.long r7], 0, 0)) (M' := (I6, J, sm_rf t d)) rfl trivial ?_
      cases h
      exact sm_W.ret (sm_C_mono D) rfl hQ
theorem T_Mo_codes {X : Nat × (Nat → Int32)} {t d D : Nat} {Q : sm_Q} {I : sm_MI} {J : sm_MJ} {x1 : Int32} {x2 : Int32} {rz : Int64} {Iz : sm_MI}
    (hD : 4 ≤ D) (h : F_Mo_codes x1 x2 I = some (rz, Iz)) (hQ : Q (.inl (some (.long rz))) (Iz, J, sm_rf t d)) : sm_C sm_sh X sm_P D 256 [.ref 61, .int x1, .int x2] (I, J, sm_rf t d) Q := by
  cases D with
  | zero => omega
  | succ D => exact sm_C.of (me := me_256) (L := [some (.ref 61), some (.int x1), some (.int x2)]) rfl rfl rfl (sm_W.forget (L' := [some (.ref 61), some (.int x1), some (.int x2)]) ⟨rfl, ⟨rfl, ⟨rfl, trivial⟩⟩⟩ (G_Mo_codes (by omega) h hQ))
-- 257 Mo_slips
noncomputable def F_Mo_slips_19B (k19 : Int32 → Int32 → Int32 → sm_MI → Option (Int32 × sm_MI)) (x1 : Int32) (x2 : Int32) (x3 : Int32) (I : sm_MI) : Option (Int32 × sm_MI) :=
  if (12 : Int32) < x3 then
    some ((-1 : Int32), I)
  else
    sd_q1 (F_Mo_codesOf x1 x3 I) fun r1 =>
    if (lg_cmp r1 (Int32.toInt64 x2)) < 0 then
      k19 x1 x2 (x3 + (1 : Int32)) I
    else
      some (x3, I)
noncomputable def F_Mo_slips_19  (n : Nat) : Int32 → Int32 → Int32 → sm_MI → Option (Int32 × sm_MI) :=
  sd_fix (fun k x1 x2 x3 I => F_Mo_slips_19B k x1 x2 x3 I) (fun _ _ _ _ => none) n
noncomputable def F_Mo_slips (x1 : Int32) (x2 : Int32) (I : sm_MI) : Option (Int32 × sm_MI) :=
  sd_lt (sd_up I 61 0 (0 : Int32)) fun I1 =>
  sd_q2 (F_Mo_isPiece x1 I1) fun r2 I3 =>
  if r2 = 0 then
    some ((0 : Int32), I3)
  else
    sd_q1 (F_Mo_within x2 (0 : Int32) (1000000000 : Int32)) fun r4 =>
    sd_q2 (F_Mo_right r4 (2 : Int32) I3) fun r5 I6 =>
    if ¬ r5 = 0 then
      F_Mo_slips_19 sd_fu x1 x2 (0 : Int32) I6
    else
      some ((0 : Int32), I6)
theorem G_Mo_slips_19B {X : Nat × (Nat → Int32)} {t d D : Nat} {Q : sm_Q} {I : sm_MI} {J : sm_MJ} {k19 : Int32 → Int32 → Int32 → sm_MI → Option (Int32 × sm_MI)} {x1 : Int32} {x2 : Int32} {x3 : Int32} {rz : Int32} {Iz : sm_MI}
    (hD : 3 ≤ D) (h : F_Mo_slips_19B k19 x1 x2 x3 I = some (rz, Iz)) (hQ : Q (.inl (some (.int rz))) (Iz, J, sm_rf t d)) (hk19 : ∀ (x1 : Int32) (x2 : Int32) (x3 : Int32) (I : sm_MI), k19 x1 x2 x3 I = some (rz, Iz) → sm_W sm_sh X (sm_C sm_sh X sm_P D) me_257 Q (19, [some (.ref 61), some (.int x1), some (.int x2), some (.int x3)], [], 0, 0) (I, J, sm_rf t d)) : sm_W sm_sh X (sm_C sm_sh X sm_P D) me_257 Q (19, [some (.ref 61), some (.int x1), some (.int x2), some (.int x3)], [], 0, 0) (I, J, sm_rf t d) := by
  unfold F_Mo_slips_19B at h
  refine sm_W.run (sm_C_mono D) 3 (G := True) (fr' := (if decide ((12 : Int32) < x3) = true then 34 else 22, [some (.ref 61), some (.int x1), some (.int x2), some (.int x3)], [], 0, 0)) (M' := (I, J, sm_rf t d)) rfl trivial (sm_W.iteD h (fun hc h => ?_) (fun hc h => ?_))
  · refine sm_W.run (sm_C_mono D) 1 (G := True) (fr' := (35, [some (.ref 61), some (.int x1), some (.int x2), some (.int x3)], [.int (-1 : Int32)], 0, 0)) (M' := (I, J, sm_rf t d)) rfl trivial ?_
    cases h
    exact sm_W.ret (sm_C_mono D) rfl hQ
  · refine sm_W.run (sm_C_mono D) 3 (G := True) (fr' := (25, [some (.ref 61), some (.int x1), some (.int x2), some (.int x3)], [.int x3, .int x1, .ref 61], 0, 0)) (M' := (I, J, sm_rf t d)) rfl trivial ?_
    obtain ⟨r1, hc, h⟩ := sd_q1_go h
    refine sm_W.cal (sm_C_mono D) (y := 255) (as := [.ref 61, .int x1, .int x3]) (fr' := (26, [some (.ref 61), some (.int x1), some (.int x2), some (.int x3)], [], 0, 0)) rfl (T_Mo_codesOf (by omega) hc ?_)
    show sm_W sm_sh X (sm_C sm_sh X sm_P D) me_257 Q (26, [some (.ref 61), some (.int x1), some (.int x2), some (.int x3)], [.long r1], 0, 0) (I, J, sm_rf t d)
    refine sm_W.run (sm_C_mono D) 4 (G := True) (fr' := (if decide ((lg_cmp r1 (Int32.toInt64 x2)) < 0) = true then 32 else 30, [some (.ref 61), some (.int x1), some (.int x2), some (.int x3)], [], 0, 0)) (M' := (I, J, sm_rf t d)) rfl trivial (sm_W.iteD h (fun hc h => ?_) (fun hc h => ?_))
    · refine sm_W.run (sm_C_mono D) 2 (G := True) (fr' := (19, [some (.ref 61), some (.int x1), some (.int x2), some (.int (x3 + (1 : Int32)))], [], 0, 0)) (M' := (I, J, sm_rf t d)) rfl trivial ?_
      exact (hk19 _ _ _ _ h)
    · refine sm_W.run (sm_C_mono D) 1 (G := True) (fr' := (31, [some (.ref 61), some (.int x1), some (.int x2), some (.int x3)], [.int x3], 0, 0)) (M' := (I, J, sm_rf t d)) rfl trivial ?_
      cases h
      exact sm_W.ret (sm_C_mono D) rfl hQ
theorem G_Mo_slips_19 {X : Nat × (Nat → Int32)} {t d D : Nat} {Q : sm_Q} {J : sm_MJ} {rz : Int32} {Iz : sm_MI}
    (hD : 3 ≤ D) (hQ : Q (.inl (some (.int rz))) (Iz, J, sm_rf t d))  : ∀ (n : Nat) (x1 : Int32) (x2 : Int32) (x3 : Int32) (I : sm_MI), F_Mo_slips_19 n x1 x2 x3 I = some (rz, Iz) → sm_W sm_sh X (sm_C sm_sh X sm_P D) me_257 Q (19, [some (.ref 61), some (.int x1), some (.int x2), some (.int x3)], [], 0, 0) (I, J, sm_rf t d) := by
  intro n
  induction n with
  | zero => intro x1 x2 x3 I h; cases (show (none : Option (Int32 × sm_MI)) = some (rz, Iz) from h)
  | succ n ih => intro x1 x2 x3 I h; exact G_Mo_slips_19B hD (show F_Mo_slips_19B (F_Mo_slips_19 n) x1 x2 x3 I = some (rz, Iz) from h) hQ  ih
theorem G_Mo_slips {X : Nat × (Nat → Int32)} {t d D : Nat} {Q : sm_Q} {I : sm_MI} {J : sm_MJ} {x1 : Int32} {x2 : Int32} {rz : Int32} {Iz : sm_MI}
    (hD : 3 ≤ D) (h : F_Mo_slips x1 x2 I = some (rz, Iz)) (hQ : Q (.inl (some (.int rz))) (Iz, J, sm_rf t d))  : sm_W sm_sh X (sm_C sm_sh X sm_P D) me_257 Q (0, [some (.ref 61), some (.int x1), some (.int x2), none], [], 0, 0) (I, J, sm_rf t d) := by
  unfold F_Mo_slips at h
  refine sm_W.runL (sm_C_mono D) 3 (G := True) (e := (sd_up I 61 0 (0 : Int32))) (fr' := fun _ => (3, [some (.ref 61), some (.int x1), some (.int x2), none], [], 0, 0)) (M' := fun I1 => (I1, J, sm_rf t d)) rfl h trivial (fun I1 h => ?_)
  refine sm_W.run (sm_C_mono D) 2 (G := True) (fr' := (5, [some (.ref 61), some (.int x1), some (.int x2), none], [.int x1, .ref 61], 0, 0)) (M' := (I1, J, sm_rf t d)) rfl trivial ?_
  obtain ⟨r2, I3, hc, h⟩ := sd_q2_go h
  refine sm_W.cal (sm_C_mono D) (y := 205) (as := [.ref 61, .int x1]) (fr' := (6, [some (.ref 61), some (.int x1), some (.int x2), none], [], 0, 0)) rfl (T_Mo_isPiece (by omega) hc ?_)
  show sm_W sm_sh X (sm_C sm_sh X sm_P D) me_257 Q (6, [some (.ref 61), some (.int x1), some (.int x2), none], [.int r2], 0, 0) (I3, J, sm_rf t d)
  refine sm_W.run (sm_C_mono D) 1 (G := True) (fr' := (if decide (r2 = 0) = true then 15 else 7, [some (.ref 61), some (.int x1), some (.int x2), none], [], 0, 0)) (M' := (I3, J, sm_rf t d)) rfl trivial (sm_W.iteD h (fun hc h => ?_) (fun hc h => ?_))
  · refine sm_W.run (sm_C_mono D) 1 (G := True) (fr' := (16, [some (.ref 61), some (.int x1), some (.int x2), none], [.int (0 : Int32)], 0, 0)) (M' := (I3, J, sm_rf t d)) rfl trivial ?_
    cases h
    exact sm_W.ret (sm_C_mono D) rfl hQ
  · refine sm_W.run (sm_C_mono D) 4 (G := True) (fr' := (11, [some (.ref 61), some (.int x1), some (.int x2), none], [.int (1000000000 : Int32), .int (0 : Int32), .int x2, .ref 61], 0, 0)) (M' := (I3, J, sm_rf t d)) rfl trivial ?_
    obtain ⟨r4, hc, h⟩ := sd_q1_go h
    refine sm_W.cal (sm_C_mono D) (y := 159) (as := [.int x2, .int (0 : Int32), .int (1000000000 : Int32)]) (fr' := (12, [some (.ref 61), some (.int x1), some (.int x2), none], [.ref 61], 0, 0)) rfl (T_Mo_within (by omega) hc ?_)
    show sm_W sm_sh X (sm_C sm_sh X sm_P D) me_257 Q (12, [some (.ref 61), some (.int x1), some (.int x2), none], [.int r4, .ref 61], 0, 0) (I3, J, sm_rf t d)
    refine sm_W.run (sm_C_mono D) 1 (G := True) (fr' := (13, [some (.ref 61), some (.int x1), some (.int x2), none], [.int (2 : Int32), .int r4, .ref 61], 0, 0)) (M' := (I3, J, sm_rf t d)) rfl trivial ?_
    obtain ⟨r5, I6, hc, h⟩ := sd_q2_go h
    refine sm_W.cal (sm_C_mono D) (y := 158) (as := [.ref 61, .int r4, .int (2 : Int32)]) (fr' := (14, [some (.ref 61), some (.int x1), some (.int x2), none], [], 0, 0)) rfl (T_Mo_right (by omega) hc ?_)
    show sm_W sm_sh X (sm_C sm_sh X sm_P D) me_257 Q (14, [some (.ref 61), some (.int x1), some (.int x2), none], [.int r5], 0, 0) (I6, J, sm_rf t d)
    refine sm_W.run (sm_C_mono D) 1 (G := True) (fr' := (if decide (¬ r5 = 0) = true then 17 else 15, [some (.ref 61), some (.int x1), some (.int x2), none], [], 0, 0)) (M' := (I6, J, sm_rf t d)) rfl trivial (sm_W.iteD h (fun hc h => ?_) (fun hc h => ?_))
    · refine sm_W.run (sm_C_mono D) 2 (G := True) (fr' := (19, [some (.ref 61), some (.int x1), some (.int x2), some (.int (0 : Int32))], [], 0, 0)) (M' := (I6, J, sm_rf t d)) rfl trivial ?_
      exact (G_Mo_slips_19 hD hQ sd_fu _ _ _ _ h)
    · refine sm_W.run (sm_C_mono D) 1 (G := True) (fr' := (16, [some (.ref 61), some (.int x1), some (.int x2), none], [.int (0 : Int32)], 0, 0)) (M' := (I6, J, sm_rf t d)) rfl trivial ?_
      cases h
      exact sm_W.ret (sm_C_mono D) rfl hQ
theorem T_Mo_slips {X : Nat × (Nat → Int32)} {t d D : Nat} {Q : sm_Q} {I : sm_MI} {J : sm_MJ} {x1 : Int32} {x2 : Int32} {rz : Int32} {Iz : sm_MI}
    (hD : 4 ≤ D) (h : F_Mo_slips x1 x2 I = some (rz, Iz)) (hQ : Q (.inl (some (.int rz))) (Iz, J, sm_rf t d)) : sm_C sm_sh X sm_P D 257 [.ref 61, .int x1, .int x2] (I, J, sm_rf t d) Q := by
  cases D with
  | zero => omega
  | succ D => exact sm_C.of (me := me_257) (L := [some (.ref 61), some (.int x1), some (.int x2), none]) rfl rfl rfl (sm_W.forget (L' := [some (.ref 61), some (.int x1), some (.int x2), none]) ⟨rfl, ⟨rfl, ⟨rfl, trivial⟩⟩⟩ (G_Mo_slips (by omega) h hQ))
-- 258 Mo_hear
noncomputable def F_Mo_hear_36 (I : sm_MI) : Option (Int32 × sm_MI) :=
  sd_q2 (F_Mo_refuses (2 : Int32) I) fun r1 I2 =>
  some (r1, I2)
noncomputable def F_Mo_hear (x1 : Int32) (x2 : Int32) (x3 : Int32) (x4 : Int32) (I : sm_MI) : Option (Int32 × sm_MI) :=
  sd_lt (sd_up I 61 0 (0 : Int32)) fun I1 =>
  sd_q2 (F_Mo_isPiece x1 I1) fun r2 I3 =>
  if r2 = 0 then
    some ((0 : Int32), I3)
  else
    sd_q2 (F_Mo_isWhat x2 (3 : Int32) I3) fun r4 I5 =>
    if ¬ r4 = 0 then
      sd_lt (((4 : Int32) * x1) + x2) fun a6 =>
      if (I5 61 53) = (8 : Int32) then
        F_Mo_hear_36 I5
      else
        if x3 < 0 then
          F_Mo_hear_36 I5
        else
          sd_q1 (F_Mo_notesOf a6 I5) fun r7 =>
          if r7 ≤ x3 then
            F_Mo_hear_36 I5
          else
            sd_q1 (F_Mo_within x4 (0 : Int32) (60 : Int32)) fun r8 =>
            if ¬ r8 = 0 then
              sd_gu (sm_in ((3 : Int32) * (I5 61 53)) 24 = true) <|
              sd_lt (sd_up I5 91 (Int32.toNatClampNeg ((3 : Int32) * (I5 61 53))) a6) fun I10 =>
              sd_gu (sm_in (((3 : Int32) * (I10 61 53)) + (1 : Int32)) 24 = true) <|
              sd_lt (sd_up I10 91 (Int32.toNatClampNeg (((3 : Int32) * (I10 61 53)) + (1 : Int32))) x3) fun I12 =>
              sd_gu (sm_in (((3 : Int32) * (I12 61 53)) + (2 : Int32)) 24 = true) <|
              sd_lt (sd_up I12 91 (Int32.toNatClampNeg (((3 : Int32) * (I12 61 53)) + (2 : Int32))) x4) fun I14 =>
              sd_lt (sd_up I14 61 53 ((I14 61 53) + (1 : Int32))) fun I15 =>
              some ((I15 61 53), I15)
            else
              F_Mo_hear_36 I5
    else
      some ((0 : Int32), I5)
theorem G_Mo_hear_36 {X : Nat × (Nat → Int32)} {t d D : Nat} {Q : sm_Q} {I : sm_MI} {J : sm_MJ} {rz : Int32} {Iz : sm_MI}
    (hD : 2 ≤ D) (h : F_Mo_hear_36 I = some (rz, Iz)) (hQ : Q (.inl (some (.int rz))) (Iz, J, sm_rf t d))  : sm_W sm_sh X (sm_C sm_sh X sm_P D) me_258 Q (36, [some (.ref 61), none, none, none, none, none], [], 0, 0) (I, J, sm_rf t d) := by
  unfold F_Mo_hear_36 at h
  refine sm_W.run (sm_C_mono D) 2 (G := True) (fr' := (38, [some (.ref 61), none, none, none, none, none], [.int (2 : Int32), .ref 61], 0, 0)) (M' := (I, J, sm_rf t d)) rfl trivial ?_
  obtain ⟨r1, I2, hc, h⟩ := sd_q2_go h
  refine sm_W.cal (sm_C_mono D) (y := 194) (as := [.ref 61, .int (2 : Int32)]) (fr' := (39, [some (.ref 61), none, none, none, none, none], [], 0, 0)) rfl (T_Mo_refuses (by omega) hc ?_)
  show sm_W sm_sh X (sm_C sm_sh X sm_P D) me_258 Q (39, [some (.ref 61), none, none, none, none, none], [.int r1], 0, 0) (I2, J, sm_rf t d)
  cases h
  exact sm_W.ret (sm_C_mono D) rfl hQ
theorem G_Mo_hear {X : Nat × (Nat → Int32)} {t d D : Nat} {Q : sm_Q} {I : sm_MI} {J : sm_MJ} {x1 : Int32} {x2 : Int32} {x3 : Int32} {x4 : Int32} {rz : Int32} {Iz : sm_MI}
    (hD : 2 ≤ D) (h : F_Mo_hear x1 x2 x3 x4 I = some (rz, Iz)) (hQ : Q (.inl (some (.int rz))) (Iz, J, sm_rf t d))  : sm_W sm_sh X (sm_C sm_sh X sm_P D) me_258 Q (0, [some (.ref 61), some (.int x1), some (.int x2), some (.int x3), some (.int x4), none], [], 0, 0) (I, J, sm_rf t d) := by
  unfold F_Mo_hear at h
  refine sm_W.runL (sm_C_mono D) 3 (G := True) (e := (sd_up I 61 0 (0 : Int32))) (fr' := fun _ => (3, [some (.ref 61), some (.int x1), some (.int x2), some (.int x3), some (.int x4), none], [], 0, 0)) (M' := fun I1 => (I1, J, sm_rf t d)) rfl h trivial (fun I1 h => ?_)
  refine sm_W.run (sm_C_mono D) 2 (G := True) (fr' := (5, [some (.ref 61), some (.int x1), some (.int x2), some (.int x3), some (.int x4), none], [.int x1, .ref 61], 0, 0)) (M' := (I1, J, sm_rf t d)) rfl trivial ?_
  obtain ⟨r2, I3, hc, h⟩ := sd_q2_go h
  refine sm_W.cal (sm_C_mono D) (y := 205) (as := [.ref 61, .int x1]) (fr' := (6, [some (.ref 61), some (.int x1), some (.int x2), some (.int x3), some (.int x4), none], [], 0, 0)) rfl (T_Mo_isPiece (by omega) hc ?_)
  show sm_W sm_sh X (sm_C sm_sh X sm_P D) me_258 Q (6, [some (.ref 61), some (.int x1), some (.int x2), some (.int x3), some (.int x4), none], [.int r2], 0, 0) (I3, J, sm_rf t d)
  refine sm_W.run (sm_C_mono D) 1 (G := True) (fr' := (if decide (r2 = 0) = true then 12 else 7, [some (.ref 61), some (.int x1), some (.int x2), some (.int x3), some (.int x4), none], [], 0, 0)) (M' := (I3, J, sm_rf t d)) rfl trivial (sm_W.iteD h (fun hc h => ?_) (fun hc h => ?_))
  · refine sm_W.run (sm_C_mono D) 1 (G := True) (fr' := (13, [some (.ref 61), some (.int x1), some (.int x2), some (.int x3), some (.int x4), none], [.int (0 : Int32)], 0, 0)) (M' := (I3, J, sm_rf t d)) rfl trivial ?_
    cases h
    exact sm_W.ret (sm_C_mono D) rfl hQ
  · refine sm_W.run (sm_C_mono D) 3 (G := True) (fr' := (10, [some (.ref 61), some (.int x1), some (.int x2), some (.int x3), some (.int x4), none], [.int (3 : Int32), .int x2, .ref 61], 0, 0)) (M' := (I3, J, sm_rf t d)) rfl trivial ?_
    obtain ⟨r4, I5, hc, h⟩ := sd_q2_go h
    refine sm_W.cal (sm_C_mono D) (y := 206) (as := [.ref 61, .int x2, .int (3 : Int32)]) (fr' := (11, [some (.ref 61), some (.int x1), some (.int x2), some (.int x3), some (.int x4), none], [], 0, 0)) rfl (T_Mo_isWhat (by omega) hc ?_)
    show sm_W sm_sh X (sm_C sm_sh X sm_P D) me_258 Q (11, [some (.ref 61), some (.int x1), some (.int x2), some (.int x3), some (.int x4), none], [.int r4], 0, 0) (I5, J, sm_rf t d)
    refine sm_W.run (sm_C_mono D) 1 (G := True) (fr' := (if decide (¬ r4 = 0) = true then 14 else 12, [some (.ref 61), some (.int x1), some (.int x2), some (.int x3), some (.int x4), none], [], 0, 0)) (M' := (I5, J, sm_rf t d)) rfl trivial (sm_W.iteD h (fun hc h => ?_) (fun hc h => ?_))
    · refine sm_W.runL (sm_C_mono D) 6 (G := True) (e := (((4 : Int32) * x1) + x2)) (fr' := fun a6 => (20, [some (.ref 61), some (.int x1), some (.int x2), some (.int x3), some (.int x4), some (.int a6)], [], 0, 0)) (M' := fun _ => (I5, J, sm_rf t d)) rfl h trivial (fun a6 h => ?_)
      refine sm_W.run (sm_C_mono D) 4 (G := True) (fr' := (if decide ((I5 61 53) = (8 : Int32)) = true then 36 else 24, [some (.ref 61), some (.int x1), some (.int x2), some (.int x3), some (.int x4), some (.int a6)], [], 0, 0)) (M' := (I5, J, sm_rf t d)) rfl trivial (sm_W.iteD h (fun hc h => ?_) (fun hc h => ?_))
      · exact sm_W.forget (L' := [some (.ref 61), none, none, none, none, none]) ⟨rfl, trivial⟩ (G_Mo_hear_36 hD h hQ)
      · refine sm_W.run (sm_C_mono D) 2 (G := True) (fr' := (if decide (x3 < 0) = true then 36 else 26, [some (.ref 61), some (.int x1), some (.int x2), some (.int x3), some (.int x4), some (.int a6)], [], 0, 0)) (M' := (I5, J, sm_rf t d)) rfl trivial (sm_W.iteD h (fun hc h => ?_) (fun hc h => ?_))
        · exact sm_W.forget (L' := [some (.ref 61), none, none, none, none, none]) ⟨rfl, trivial⟩ (G_Mo_hear_36 hD h hQ)
        · refine sm_W.run (sm_C_mono D) 3 (G := True) (fr' := (29, [some (.ref 61), some (.int x1), some (.int x2), some (.int x3), some (.int x4), some (.int a6)], [.int a6, .ref 61, .int x3], 0, 0)) (M' := (I5, J, sm_rf t d)) rfl trivial ?_
          obtain ⟨r7, hc, h⟩ := sd_q1_go h
          refine sm_W.cal (sm_C_mono D) (y := 208) (as := [.ref 61, .int a6]) (fr' := (30, [some (.ref 61), some (.int x1), some (.int x2), some (.int x3), some (.int x4), some (.int a6)], [.int x3], 0, 0)) rfl (T_Mo_notesOf (by omega) hc ?_)
          show sm_W sm_sh X (sm_C sm_sh X sm_P D) me_258 Q (30, [some (.ref 61), some (.int x1), some (.int x2), some (.int x3), some (.int x4), some (.int a6)], [.int r7, .int x3], 0, 0) (I5, J, sm_rf t d)
          refine sm_W.run (sm_C_mono D) 1 (G := True) (fr' := (if decide (r7 ≤ x3) = true then 36 else 31, [some (.ref 61), some (.int x1), some (.int x2), some (.int x3), some (.int x4), some (.int a6)], [], 0, 0)) (M' := (I5, J, sm_rf t d)) rfl trivial (sm_W.iteD h (fun hc h => ?_) (fun hc h => ?_))
          · exact sm_W.forget (L' := [some (.ref 61), none, none, none, none, none]) ⟨rfl, trivial⟩ (G_Mo_hear_36 hD h hQ)
          · refine sm_W.run (sm_C_mono D) 3 (G := True) (fr' := (34, [some (.ref 61), some (.int x1), some (.int x2), some (.int x3), some (.int x4), some (.int a6)], [.int (60 : Int32), .int (0 : Int32), .int x4], 0, 0)) (M' := (I5, J, sm_rf t d)) rfl trivial ?_
            obtain ⟨r8, hc, h⟩ := sd_q1_go h
            refine sm_W.cal (sm_C_mono D) (y := 159) (as := [.int x4, .int (0 : Int32), .int (60 : Int32)]) (fr' := (35, [some (.ref 61), some (.int x1), some (.int x2), some (.int x3), some (.int x4), some (.int a6)], [], 0, 0)) rfl (T_Mo_within (by omega) hc ?_)
            show sm_W sm_sh X (sm_C sm_sh X sm_P D) me_258 Q (35, [some (.ref 61), some (.int x1), some (.int x2), some (.int x3), some (.int x4), some (.int a6)], [.int r8], 0, 0) (I5, J, sm_rf t d)
            refine sm_W.run (sm_C_mono D) 1 (G := True) (fr' := (if decide (¬ r8 = 0) = true then 40 else 36, [some (.ref 61), some (.int x1), some (.int x2), some (.int x3), some (.int x4), some (.int a6)], [], 0, 0)) (M' := (I5, J, sm_rf t d)) rfl trivial (sm_W.iteD h (fun hc h => ?_) (fun hc h => ?_))
            · obtain ⟨g9, h⟩ := sd_gu_go h
              refine sm_W.runL (sm_C_mono D) 8 (G := sm_in ((3 : Int32) * (I5 61 53)) 24 = true ∧ True) (e := (sd_up I5 91 (Int32.toNatClampNeg ((3 : Int32) * (I5 61 53))) a6)) (fr' := fun _ => (48, [some (.ref 61), some (.int x1), some (.int x2), some (.int x3), some (.int x4), some (.int a6)], [], 0, 0)) (M' := fun I10 => (I10, J, sm_rf t d)) rfl h ⟨g9, trivial⟩ (fun I10 h => ?_)
              obtain ⟨g11, h⟩ := sd_gu_go h
              refine sm_W.runL (sm_C_mono D) 10 (G := sm_in (((3 : Int32) * (I10 61 53)) + (1 : Int32)) 24 = true ∧ True) (e := (sd_up I10 91 (Int32.toNatClampNeg (((3 : Int32) * (I10 61 53)) + (1 : Int32))) x3)) (fr' := fun _ => (58, [some (.ref 61), some (.int x1), some (.int x2), some (.int x3), some (.int x4), some (.int a6)], [], 0, 0)) (M' := fun I12 => (I12, J, sm_rf t d)) rfl h ⟨g11, trivial⟩ (fun I12 h => ?_)
              obtain ⟨g13, h⟩ := sd_gu_go h
              refine sm_W.runL (sm_C_mono D) 10 (G := sm_in (((3 : Int32) * (I12 61 53)) + (2 : Int32)) 24 = true ∧ True) (e := (sd_up I12 91 (Int32.toNatClampNeg (((3 : Int32) * (I12 61 53)) + (2 : Int32))) x4)) (fr' := fun _ => (68, [some (.ref 61), some (.int x1), some (.int x2), some (.int x3), some (.int x4), some (.int a6)], [], 0, 0)) (M' := fun I14 => (I14, J, sm_rf t d)) rfl h ⟨g13, trivial⟩ (fun I14 h => ?_)
              refine sm_W.runL (sm_C_mono D) 6 (G := True) (e := (sd_up I14 61 53 ((I14 61 53) + (1 : Int32)))) (fr' := fun _ => (74, [some (.ref 61), some (.int x1), some (.int x2), some (.int x3), some (.int x4), some (.int a6)], [], 0, 0)) (M' := fun I15 => (I15, J, sm_rf t d)) rfl h trivial (fun I15 h => ?_)
              refine sm_W.run (sm_C_mono D) 2 (G := True) (fr' := (76, [some (.ref 61), some (.int x1), some (.int x2), some (.int x3), some (.int x4), some (.int a6)], [.int (I15 61 53)], 0, 0)) (M' := (I15, J, sm_rf t d)) rfl trivial ?_
              cases h
              exact sm_W.ret (sm_C_mono D) rfl hQ
            · exact sm_W.forget (L' := [some (.ref 61), none, none, none, none, none]) ⟨rfl, trivial⟩ (G_Mo_hear_36 hD h hQ)
    · refine sm_W.run (sm_C_mono D) 1 (G := True) (fr' := (13, [some (.ref 61), some (.int x1), some (.int x2), some (.int x3), some (.int x4), none], [.int (0 : Int32)], 0, 0)) (M' := (I5, J, sm_rf t d)) rfl trivial ?_
      cases h
      exact sm_W.ret (sm_C_mono D) rfl hQ
theorem T_Mo_hear {X : Nat × (Nat → Int32)} {t d D : Nat} {Q : sm_Q} {I : sm_MI} {J : sm_MJ} {x1 : Int32} {x2 : Int32} {x3 : Int32} {x4 : Int32} {rz : Int32} {Iz : sm_MI}
    (hD : 3 ≤ D) (h : F_Mo_hear x1 x2 x3 x4 I = some (rz, Iz)) (hQ : Q (.inl (some (.int rz))) (Iz, J, sm_rf t d)) : sm_C sm_sh X sm_P D 258 [.ref 61, .int x1, .int x2, .int x3, .int x4] (I, J, sm_rf t d) Q := by
  cases D with
  | zero => omega
  | succ D => exact sm_C.of (me := me_258) (L := [some (.ref 61), some (.int x1), some (.int x2), some (.int x3), some (.int x4), none]) rfl rfl rfl (sm_W.forget (L' := [some (.ref 61), some (.int x1), some (.int x2), some (.int x3), some (.int x4), none]) ⟨rfl, ⟨rfl, ⟨rfl, ⟨rfl, ⟨rfl, trivial⟩⟩⟩⟩⟩ (G_Mo_hear (by omega) h hQ))
-- 259 Mo_forget
noncomputable def F_Mo_forget (I : sm_MI) : Option (sm_MI) :=
  sd_lt (sd_up I 61 0 (0 : Int32)) fun I1 =>
  sd_lt (sd_up I1 61 53 (0 : Int32)) fun I2 =>
  some (I2)
theorem G_Mo_forget {X : Nat × (Nat → Int32)} {t d D : Nat} {Q : sm_Q} {I : sm_MI} {J : sm_MJ} {Iz : sm_MI}
    (hD : 0 ≤ D) (h : F_Mo_forget I = some (Iz)) (hQ : Q (.inl none) (Iz, J, sm_rf t d))  : sm_W sm_sh X (sm_C sm_sh X sm_P D) me_259 Q (0, [some (.ref 61)], [], 0, 0) (I, J, sm_rf t d) := by
  unfold F_Mo_forget at h
  refine sm_W.runL (sm_C_mono D) 3 (G := True) (e := (sd_up I 61 0 (0 : Int32))) (fr' := fun _ => (3, [some (.ref 61)], [], 0, 0)) (M' := fun I1 => (I1, J, sm_rf t d)) rfl h trivial (fun I1 h => ?_)
  refine sm_W.runL (sm_C_mono D) 3 (G := True) (e := (sd_up I1 61 53 (0 : Int32))) (fr' := fun _ => (6, [some (.ref 61)], [], 0, 0)) (M' := fun I2 => (I2, J, sm_rf t d)) rfl h trivial (fun I2 h => ?_)
  cases h
  exact sm_W.ret (sm_C_mono D) rfl hQ
theorem T_Mo_forget {X : Nat × (Nat → Int32)} {t d D : Nat} {Q : sm_Q} {I : sm_MI} {J : sm_MJ} {Iz : sm_MI}
    (hD : 1 ≤ D) (h : F_Mo_forget I = some (Iz)) (hQ : Q (.inl none) (Iz, J, sm_rf t d)) : sm_C sm_sh X sm_P D 259 [.ref 61] (I, J, sm_rf t d) Q := by
  cases D with
  | zero => omega
  | succ D => exact sm_C.of (me := me_259) (L := [some (.ref 61)]) rfl rfl rfl (sm_W.forget (L' := [some (.ref 61)]) ⟨rfl, trivial⟩ (G_Mo_forget (by omega) h hQ))
-- 260 Mo_isHeard
noncomputable def F_Mo_isHeard_55 (k2 : Int32 → Int32 → Int32 → Option (Int32)) (x1 : Int32) (x2 : Int32) (x3 : Int32) (s0 : Int32) (s1 : Int32) (I : sm_MI) : Option (Int32) :=
  sd_gu (sm_in (((3 : Int32) * x3) + (2 : Int32)) 24 = true) <|
  if (s0 - s1) = (I 91 (Int32.toNatClampNeg (((3 : Int32) * x3) + (2 : Int32)))) then
    k2 x1 x2 (x3 + (1 : Int32))
  else
    some ((0 : Int32))
noncomputable def F_Mo_isHeard_34 (k2 : Int32 → Int32 → Int32 → Option (Int32)) (x1 : Int32) (x2 : Int32) (x3 : Int32) (x4 : Int32) (s0 : Int32) (I : sm_MI) : Option (Int32) :=
  sd_gu (sm_in (((3 : Int32) * x3) + (1 : Int32)) 24 = true) <|
  sd_gu (sm_in (((12 : Int32) * x4) + (I 91 (Int32.toNatClampNeg (((3 : Int32) * x3) + (1 : Int32))))) 240 = true) <|
  if s0 = 0 then
    F_Mo_isHeard_55 k2 x1 x2 x3 (I 69 (Int32.toNatClampNeg (((12 : Int32) * x4) + (I 91 (Int32.toNatClampNeg (((3 : Int32) * x3) + (1 : Int32))))))) (0 : Int32) I
  else
    F_Mo_isHeard_55 k2 x1 x2 x3 (I 69 (Int32.toNatClampNeg (((12 : Int32) * x4) + (I 91 (Int32.toNatClampNeg (((3 : Int32) * x3) + (1 : Int32))))))) x2 I
noncomputable def F_Mo_isHeard_2B (k2 : Int32 → Int32 → Int32 → Option (Int32)) (x1 : Int32) (x2 : Int32) (x3 : Int32) (I : sm_MI) : Option (Int32) :=
  if (I 61 53) ≤ x3 then
    some ((1 : Int32))
  else
    sd_gu (sm_in ((3 : Int32) * x3) 24 = true) <|
    sd_lt (I 91 (Int32.toNatClampNeg ((3 : Int32) * x3))) fun a2 =>
    if x1 = (-1 : Int32) then
      F_Mo_isHeard_34 k2 x1 x2 x3 a2 (0 : Int32) I
    else
      sd_q1 (F_Mo_areSo 86 (0 : Int32) I) fun r3 =>
      sd_q1 (F_Mo_ableOf r3 a2 (0 : Int32) I) fun r4 =>
      if ¬ ((r4 >>> (x1 &&& 31)) &&& (1 : Int32)) = (1 : Int32) then
        F_Mo_isHeard_34 k2 x1 x2 x3 a2 (0 : Int32) I
      else
        F_Mo_isHeard_34 k2 x1 x2 x3 a2 (1 : Int32) I
noncomputable def F_Mo_isHeard_2 (I : sm_MI) (n : Nat) : Int32 → Int32 → Int32 → Option (Int32) :=
  sd_fix (fun k x1 x2 x3 => F_Mo_isHeard_2B k x1 x2 x3 I) (fun _ _ _ => none) n
noncomputable def F_Mo_isHeard (x1 : Int32) (x2 : Int32) (I : sm_MI) : Option (Int32) :=
  F_Mo_isHeard_2 I sd_fu x1 x2 (0 : Int32)
theorem G_Mo_isHeard_55 {X : Nat × (Nat → Int32)} {t d D : Nat} {Q : sm_Q} {I : sm_MI} {J : sm_MJ} {k2 : Int32 → Int32 → Int32 → Option (Int32)} {x1 : Int32} {x2 : Int32} {x3 : Int32} {s0 : Int32} {s1 : Int32} {rz : Int32}
    (hD : 3 ≤ D) (h : F_Mo_isHeard_55 k2 x1 x2 x3 s0 s1 I = some (rz)) (hQ : Q (.inl (some (.int rz))) (I, J, sm_rf t d)) (hk2 : ∀ (x1 : Int32) (x2 : Int32) (x3 : Int32), k2 x1 x2 x3 = some (rz) → sm_W sm_sh X (sm_C sm_sh X sm_P D) me_260 Q (2, [some (.ref 61), some (.int x1), some (.int x2), some (.int x3), none, none], [], 0, 0) (I, J, sm_rf t d)) : sm_W sm_sh X (sm_C sm_sh X sm_P D) me_260 Q (55, [some (.ref 61), some (.int x1), some (.int x2), some (.int x3), none, none], [.int s1, .int s0], 0, 0) (I, J, sm_rf t d) := by
  unfold F_Mo_isHeard_55 at h
  obtain ⟨g1, h⟩ := sd_gu_go h
  refine sm_W.run (sm_C_mono D) 10 (G := sm_in (((3 : Int32) * x3) + (2 : Int32)) 24 = true ∧ True) (fr' := (if decide ((s0 - s1) = (I 91 (Int32.toNatClampNeg (((3 : Int32) * x3) + (2 : Int32))))) = true then 67 else 65, [some (.ref 61), some (.int x1), some (.int x2), some (.int x3), none, none], [], 0, 0)) (M' := (I, J, sm_rf t d)) rfl ⟨g1, trivial⟩ (sm_W.iteD h (fun hc h => ?_) (fun hc h => ?_))
  · refine sm_W.run (sm_C_mono D) 2 (G := True) (fr' := (2, [some (.ref 61), some (.int x1), some (.int x2), some (.int (x3 + (1 : Int32))), none, none], [], 0, 0)) (M' := (I, J, sm_rf t d)) rfl trivial ?_
    exact (hk2 _ _ _ h)
  · refine sm_W.run (sm_C_mono D) 1 (G := True) (fr' := (66, [some (.ref 61), some (.int x1), some (.int x2), some (.int x3), none, none], [.int (0 : Int32)], 0, 0)) (M' := (I, J, sm_rf t d)) rfl trivial ?_
    cases h
    exact sm_W.ret (sm_C_mono D) rfl hQ
theorem G_Mo_isHeard_34 {X : Nat × (Nat → Int32)} {t d D : Nat} {Q : sm_Q} {I : sm_MI} {J : sm_MJ} {k2 : Int32 → Int32 → Int32 → Option (Int32)} {x1 : Int32} {x2 : Int32} {x3 : Int32} {x4 : Int32} {s0 : Int32} {rz : Int32}
    (hD : 3 ≤ D) (h : F_Mo_isHeard_34 k2 x1 x2 x3 x4 s0 I = some (rz)) (hQ : Q (.inl (some (.int rz))) (I, J, sm_rf t d)) (hk2 : ∀ (x1 : Int32) (x2 : Int32) (x3 : Int32), k2 x1 x2 x3 = some (rz) → sm_W sm_sh X (sm_C sm_sh X sm_P D) me_260 Q (2, [some (.ref 61), some (.int x1), some (.int x2), some (.int x3), none, none], [], 0, 0) (I, J, sm_rf t d)) : sm_W sm_sh X (sm_C sm_sh X sm_P D) me_260 Q (34, [some (.ref 61), some (.int x1), some (.int x2), some (.int x3), some (.int x4), none], [.int s0], 0, 0) (I, J, sm_rf t d) := by
  unfold F_Mo_isHeard_34 at h
  obtain ⟨g1, h⟩ := sd_gu_go h
  obtain ⟨g2, h⟩ := sd_gu_go h
  refine sm_W.run (sm_C_mono D) 18 (G := sm_in (((3 : Int32) * x3) + (1 : Int32)) 24 = true ∧ sm_in (((12 : Int32) * x4) + (I 91 (Int32.toNatClampNeg (((3 : Int32) * x3) + (1 : Int32))))) 240 = true ∧ True) (fr' := (if decide (s0 = 0) = true then 54 else 52, [some (.ref 61), some (.int x1), some (.int x2), some (.int x3), some (.int x4), some (.int s0)], [.int (I 69 (Int32.toNatClampNeg (((12 : Int32) * x4) + (I 91 (Int32.toNatClampNeg (((3 : Int32) * x3) + (1 : Int32)))))))], 0, 0)) (M' := (I, J, sm_rf t d)) rfl ⟨g1, g2, trivial⟩ (sm_W.iteD h (fun hc h => ?_) (fun hc h => ?_))
  · refine sm_W.run (sm_C_mono D) 1 (G := True) (fr' := (55, [some (.ref 61), some (.int x1), some (.int x2), some (.int x3), some (.int x4), some (.int s0)], [.int (0 : Int32), .int (I 69 (Int32.toNatClampNeg (((12 : Int32) * x4) + (I 91 (Int32.toNatClampNeg (((3 : Int32) * x3) + (1 : Int32)))))))], 0, 0)) (M' := (I, J, sm_rf t d)) rfl trivial ?_
    exact sm_W.forget (L' := [some (.ref 61), some (.int x1), some (.int x2), some (.int x3), none, none]) ⟨rfl, ⟨rfl, ⟨rfl, ⟨rfl, trivial⟩⟩⟩⟩ (G_Mo_isHeard_55 hD h hQ hk2)
  · refine sm_W.run (sm_C_mono D) 2 (G := True) (fr' := (55, [some (.ref 61), some (.int x1), some (.int x2), some (.int x3), some (.int x4), some (.int s0)], [.int x2, .int (I 69 (Int32.toNatClampNeg (((12 : Int32) * x4) + (I 91 (Int32.toNatClampNeg (((3 : Int32) * x3) + (1 : Int32)))))))], 0, 0)) (M' := (I, J, sm_rf t d)) rfl trivial ?_
    exact sm_W.forget (L' := [some (.ref 61), some (.int x1), some (.int x2), some (.int x3), none, none]) ⟨rfl, ⟨rfl, ⟨rfl, ⟨rfl, trivial⟩⟩⟩⟩ (G_Mo_isHeard_55 hD h hQ hk2)
theorem G_Mo_isHeard_2B {X : Nat × (Nat → Int32)} {t d D : Nat} {Q : sm_Q} {I : sm_MI} {J : sm_MJ} {k2 : Int32 → Int32 → Int32 → Option (Int32)} {x1 : Int32} {x2 : Int32} {x3 : Int32} {rz : Int32}
    (hD : 3 ≤ D) (h : F_Mo_isHeard_2B k2 x1 x2 x3 I = some (rz)) (hQ : Q (.inl (some (.int rz))) (I, J, sm_rf t d)) (hk2 : ∀ (x1 : Int32) (x2 : Int32) (x3 : Int32), k2 x1 x2 x3 = some (rz) → sm_W sm_sh X (sm_C sm_sh X sm_P D) me_260 Q (2, [some (.ref 61), some (.int x1), some (.int x2), some (.int x3), none, none], [], 0, 0) (I, J, sm_rf t d)) : sm_W sm_sh X (sm_C sm_sh X sm_P D) me_260 Q (2, [some (.ref 61), some (.int x1), some (.int x2), some (.int x3), none, none], [], 0, 0) (I, J, sm_rf t d) := by
  unfold F_Mo_isHeard_2B at h
  refine sm_W.run (sm_C_mono D) 4 (G := True) (fr' := (if decide ((I 61 53) ≤ x3) = true then 69 else 6, [some (.ref 61), some (.int x1), some (.int x2), some (.int x3), none, none], [], 0, 0)) (M' := (I, J, sm_rf t d)) rfl trivial (sm_W.iteD h (fun hc h => ?_) (fun hc h => ?_))
  · refine sm_W.run (sm_C_mono D) 1 (G := True) (fr' := (70, [some (.ref 61), some (.int x1), some (.int x2), some (.int x3), none, none], [.int (1 : Int32)], 0, 0)) (M' := (I, J, sm_rf t d)) rfl trivial ?_
    cases h
    exact sm_W.ret (sm_C_mono D) rfl hQ
  · obtain ⟨g1, h⟩ := sd_gu_go h
    refine sm_W.runL (sm_C_mono D) 7 (G := sm_in ((3 : Int32) * x3) 24 = true ∧ True) (e := (I 91 (Int32.toNatClampNeg ((3 : Int32) * x3)))) (fr' := fun a2 => (13, [some (.ref 61), some (.int x1), some (.int x2), some (.int x3), some (.int a2), none], [], 0, 0)) (M' := fun _ => (I, J, sm_rf t d)) rfl h ⟨g1, trivial⟩ (fun a2 h => ?_)
    refine sm_W.run (sm_C_mono D) 3 (G := True) (fr' := (if decide (x1 = (-1 : Int32)) = true then 33 else 16, [some (.ref 61), some (.int x1), some (.int x2), some (.int x3), some (.int a2), none], [], 0, 0)) (M' := (I, J, sm_rf t d)) rfl trivial (sm_W.iteD h (fun hc h => ?_) (fun hc h => ?_))
    · refine sm_W.run (sm_C_mono D) 1 (G := True) (fr' := (34, [some (.ref 61), some (.int x1), some (.int x2), some (.int x3), some (.int a2), none], [.int (0 : Int32)], 0, 0)) (M' := (I, J, sm_rf t d)) rfl trivial ?_
      exact (G_Mo_isHeard_34 hD h hQ hk2)
    · refine sm_W.run (sm_C_mono D) 5 (G := True) (fr' := (21, [some (.ref 61), some (.int x1), some (.int x2), some (.int x3), some (.int a2), none], [.int (0 : Int32), .ref 86, .ref 61, .ref 61], 0, 0)) (M' := (I, J, sm_rf t d)) rfl trivial ?_
      obtain ⟨r3, hc, h⟩ := sd_q1_go h
      refine sm_W.cal (sm_C_mono D) (y := 196) (as := [.ref 61, .ref 86, .int (0 : Int32)]) (fr' := (22, [some (.ref 61), some (.int x1), some (.int x2), some (.int x3), some (.int a2), none], [.ref 61], 0, 0)) rfl (T_Mo_areSo (by omega) (by decide) hc ?_)
      show sm_W sm_sh X (sm_C sm_sh X sm_P D) me_260 Q (22, [some (.ref 61), some (.int x1), some (.int x2), some (.int x3), some (.int a2), none], [.int r3, .ref 61], 0, 0) (I, J, sm_rf t d)
      refine sm_W.run (sm_C_mono D) 2 (G := True) (fr' := (24, [some (.ref 61), some (.int x1), some (.int x2), some (.int x3), some (.int a2), none], [.int (0 : Int32), .int a2, .int r3, .ref 61], 0, 0)) (M' := (I, J, sm_rf t d)) rfl trivial ?_
      obtain ⟨r4, hc, h⟩ := sd_q1_go h
      refine sm_W.cal (sm_C_mono D) (y := 199) (as := [.ref 61, .int r3, .int a2, .int (0 : Int32)]) (fr' := (25, [some (.ref 61), some (.int x1), some (.int x2), some (.int x3), some (.int a2), none], [], 0, 0)) rfl (T_Mo_ableOf (by omega) hc ?_)
      show sm_W sm_sh X (sm_C sm_sh X sm_P D) me_260 Q (25, [some (.ref 61), some (.int x1), some (.int x2), some (.int x3), some (.int a2), none], [.int r4], 0, 0) (I, J, sm_rf t d)
      refine sm_W.run (sm_C_mono D) 6 (G := True) (fr' := (if decide (¬ ((r4 >>> (x1 &&& 31)) &&& (1 : Int32)) = (1 : Int32)) = true then 33 else 31, [some (.ref 61), some (.int x1), some (.int x2), some (.int x3), some (.int a2), none], [], 0, 0)) (M' := (I, J, sm_rf t d)) rfl trivial (sm_W.iteD h (fun hc h => ?_) (fun hc h => ?_))
      · refine sm_W.run (sm_C_mono D) 1 (G := True) (fr' := (34, [some (.ref 61), some (.int x1), some (.int x2), some (.int x3), some (.int a2), none], [.int (0 : Int32)], 0, 0)) (M' := (I, J, sm_rf t d)) rfl trivial ?_
        exact (G_Mo_isHeard_34 hD h hQ hk2)
      · refine sm_W.run (sm_C_mono D) 2 (G := True) (fr' := (34, [some (.ref 61), some (.int x1), some (.int x2), some (.int x3), some (.int a2), none], [.int (1 : Int32)], 0, 0)) (M' := (I, J, sm_rf t d)) rfl trivial ?_
        exact (G_Mo_isHeard_34 hD h hQ hk2)
theorem G_Mo_isHeard_2 {X : Nat × (Nat → Int32)} {t d D : Nat} {Q : sm_Q} {I : sm_MI} {J : sm_MJ} {rz : Int32}
    (hD : 3 ≤ D) (hQ : Q (.inl (some (.int rz))) (I, J, sm_rf t d))  : ∀ (n : Nat) (x1 : Int32) (x2 : Int32) (x3 : Int32), F_Mo_isHeard_2 I n x1 x2 x3 = some (rz) → sm_W sm_sh X (sm_C sm_sh X sm_P D) me_260 Q (2, [some (.ref 61), some (.int x1), some (.int x2), some (.int x3), none, none], [], 0, 0) (I, J, sm_rf t d) := by
  intro n
  induction n with
  | zero => intro x1 x2 x3 h; cases (show (none : Option (Int32)) = some (rz) from h)
  | succ n ih => intro x1 x2 x3 h; exact G_Mo_isHeard_2B hD (show F_Mo_isHeard_2B (F_Mo_isHeard_2 I n) x1 x2 x3 I = some (rz) from h) hQ  ih
theorem G_Mo_isHeard {X : Nat × (Nat → Int32)} {t d D : Nat} {Q : sm_Q} {I : sm_MI} {J : sm_MJ} {x1 : Int32} {x2 : Int32} {rz : Int32}
    (hD : 3 ≤ D) (h : F_Mo_isHeard x1 x2 I = some (rz)) (hQ : Q (.inl (some (.int rz))) (I, J, sm_rf t d))  : sm_W sm_sh X (sm_C sm_sh X sm_P D) me_260 Q (0, [some (.ref 61), some (.int x1), some (.int x2), none, none, none], [], 0, 0) (I, J, sm_rf t d) := by
  unfold F_Mo_isHeard at h
  refine sm_W.run (sm_C_mono D) 2 (G := True) (fr' := (2, [some (.ref 61), some (.int x1), some (.int x2), some (.int (0 : Int32)), none, none], [], 0, 0)) (M' := (I, J, sm_rf t d)) rfl trivial ?_
  exact (G_Mo_isHeard_2 hD hQ sd_fu _ _ _ h)
theorem T_Mo_isHeard {X : Nat × (Nat → Int32)} {t d D : Nat} {Q : sm_Q} {I : sm_MI} {J : sm_MJ} {x1 : Int32} {x2 : Int32} {rz : Int32}
    (hD : 4 ≤ D) (h : F_Mo_isHeard x1 x2 I = some (rz)) (hQ : Q (.inl (some (.int rz))) (I, J, sm_rf t d)) : sm_C sm_sh X sm_P D 260 [.ref 61, .int x1, .int x2] (I, J, sm_rf t d) Q := by
  cases D with
  | zero => omega
  | succ D => exact sm_C.of (me := me_260) (L := [some (.ref 61), some (.int x1), some (.int x2), none, none, none]) rfl rfl rfl (sm_W.forget (L' := [some (.ref 61), some (.int x1), some (.int x2), none, none, none]) ⟨rfl, ⟨rfl, ⟨rfl, trivial⟩⟩⟩ (G_Mo_isHeard (by omega) h hQ))
-- 261 Mo_flat
noncomputable def F_Mo_flat_34B (k28 : Int32 → Int32 → Int32 → Int32 → sm_MI → Option (Int32 × sm_MI)) (k34 : Int32 → Int32 → Int32 → Int32 → Int32 → sm_MI → Option (Int32 × sm_MI)) (x1 : Int32) (x2 : Int32) (x3 : Int32) (x4 : Int32) (x5 : Int32) (I : sm_MI) : Option (Int32 × sm_MI) :=
  if (5 : Int32) < x5 then
    k28 x1 x2 x3 (x4 + (1 : Int32)) I
  else
    sd_q1 (F_Mo_isHeard x4 x5 I) fun r1 =>
    if ¬ r1 = 0 then
      if ¬ x3 = (-1 : Int32) then
        k34 x1 (x2 + (1 : Int32)) x3 x4 (x5 + (1 : Int32)) I
      else
        sd_lt (((10 : Int32) * x4) + x5) fun a2 =>
        k34 x1 (x2 + (1 : Int32)) a2 x4 (x5 + (1 : Int32)) I
    else
      k34 x1 x2 x3 x4 (x5 + (1 : Int32)) I
noncomputable def F_Mo_flat_34 (k28 : Int32 → Int32 → Int32 → Int32 → sm_MI → Option (Int32 × sm_MI)) (n : Nat) : Int32 → Int32 → Int32 → Int32 → Int32 → sm_MI → Option (Int32 × sm_MI) :=
  sd_fix (fun k x1 x2 x3 x4 x5 I => F_Mo_flat_34B k28 k x1 x2 x3 x4 x5 I) (fun _ _ _ _ _ _ => none) n
noncomputable def F_Mo_flat_28B (k28 : Int32 → Int32 → Int32 → Int32 → sm_MI → Option (Int32 × sm_MI)) (x1 : Int32) (x2 : Int32) (x3 : Int32) (x4 : Int32) (I : sm_MI) : Option (Int32 × sm_MI) :=
  if (I 61 1) ≤ x4 then
    if ¬ x1 = 0 then
      some (x3, I)
    else
      some (x2, I)
  else
    F_Mo_flat_34 k28 sd_fu x1 x2 x3 x4 (1 : Int32) I
noncomputable def F_Mo_flat_28  (n : Nat) : Int32 → Int32 → Int32 → Int32 → sm_MI → Option (Int32 × sm_MI) :=
  sd_fix (fun k x1 x2 x3 x4 I => F_Mo_flat_28B k x1 x2 x3 x4 I) (fun _ _ _ _ _ => none) n
noncomputable def F_Mo_flat (x1 : Int32) (I : sm_MI) : Option (Int32 × sm_MI) :=
  sd_lt (sd_up I 61 0 (0 : Int32)) fun I1 =>
  sd_q2 (F_Mo_isWhat x1 (2 : Int32) I1) fun r2 I3 =>
  if ¬ r2 = 0 then
    if ¬ x1 = (2 : Int32) then
      F_Mo_flat_28 sd_fu x1 (0 : Int32) (-1 : Int32) (0 : Int32) I3
    else
      sd_q1 (F_Mo_isHeard (-1 : Int32) (0 : Int32) I3) fun r4 =>
      if r4 = 0 then
        some ((0 : Int32), I3)
      else
        some ((1 : Int32), I3)
  else
    some ((0 : Int32), I3)
theorem G_Mo_flat_34B {X : Nat × (Nat → Int32)} {t d D : Nat} {Q : sm_Q} {I : sm_MI} {J : sm_MJ} {k28 : Int32 → Int32 → Int32 → Int32 → sm_MI → Option (Int32 × sm_MI)} {k34 : Int32 → Int32 → Int32 → Int32 → Int32 → sm_MI → Option (Int32 × sm_MI)} {x1 : Int32} {x2 : Int32} {x3 : Int32} {x4 : Int32} {x5 : Int32} {rz : Int32} {Iz : sm_MI}
    (hD : 4 ≤ D) (h : F_Mo_flat_34B k28 k34 x1 x2 x3 x4 x5 I = some (rz, Iz)) (hQ : Q (.inl (some (.int rz))) (Iz, J, sm_rf t d)) (hk28 : ∀ (x1 : Int32) (x2 : Int32) (x3 : Int32) (x4 : Int32) (I : sm_MI), k28 x1 x2 x3 x4 I = some (rz, Iz) → sm_W sm_sh X (sm_C sm_sh X sm_P D) me_261 Q (28, [some (.ref 61), some (.int x1), some (.int x2), some (.int x3), some (.int x4), none], [], 0, 0) (I, J, sm_rf t d)) (hk34 : ∀ (x1 : Int32) (x2 : Int32) (x3 : Int32) (x4 : Int32) (x5 : Int32) (I : sm_MI), k34 x1 x2 x3 x4 x5 I = some (rz, Iz) → sm_W sm_sh X (sm_C sm_sh X sm_P D) me_261 Q (34, [some (.ref 61), some (.int x1), some (.int x2), some (.int x3), some (.int x4), some (.int x5)], [], 0, 0) (I, J, sm_rf t d)) : sm_W sm_sh X (sm_C sm_sh X sm_P D) me_261 Q (34, [some (.ref 61), some (.int x1), some (.int x2), some (.int x3), some (.int x4), some (.int x5)], [], 0, 0) (I, J, sm_rf t d) := by
  unfold F_Mo_flat_34B at h
  refine sm_W.run (sm_C_mono D) 3 (G := True) (fr' := (if decide ((5 : Int32) < x5) = true then 55 else 37, [some (.ref 61), some (.int x1), some (.int x2), some (.int x3), some (.int x4), some (.int x5)], [], 0, 0)) (M' := (I, J, sm_rf t d)) rfl trivial (sm_W.iteD h (fun hc h => ?_) (fun hc h => ?_))
  · refine sm_W.run (sm_C_mono D) 2 (G := True) (fr' := (28, [some (.ref 61), some (.int x1), some (.int x2), some (.int x3), some (.int (x4 + (1 : Int32))), some (.int x5)], [], 0, 0)) (M' := (I, J, sm_rf t d)) rfl trivial ?_
    exact sm_W.forget (L' := [some (.ref 61), some (.int x1), some (.int x2), some (.int x3), some (.int (x4 + (1 : Int32))), none]) ⟨rfl, ⟨rfl, ⟨rfl, ⟨rfl, ⟨rfl, trivial⟩⟩⟩⟩⟩ (hk28 _ _ _ _ _ h)
  · refine sm_W.run (sm_C_mono D) 3 (G := True) (fr' := (40, [some (.ref 61), some (.int x1), some (.int x2), some (.int x3), some (.int x4), some (.int x5)], [.int x5, .int x4, .ref 61], 0, 0)) (M' := (I, J, sm_rf t d)) rfl trivial ?_
    obtain ⟨r1, hc, h⟩ := sd_q1_go h
    refine sm_W.cal (sm_C_mono D) (y := 260) (as := [.ref 61, .int x4, .int x5]) (fr' := (41, [some (.ref 61), some (.int x1), some (.int x2), some (.int x3), some (.int x4), some (.int x5)], [], 0, 0)) rfl (T_Mo_isHeard (by omega) hc ?_)
    show sm_W sm_sh X (sm_C sm_sh X sm_P D) me_261 Q (41, [some (.ref 61), some (.int x1), some (.int x2), some (.int x3), some (.int x4), some (.int x5)], [.int r1], 0, 0) (I, J, sm_rf t d)
    refine sm_W.run (sm_C_mono D) 1 (G := True) (fr' := (if decide (¬ r1 = 0) = true then 43 else 42, [some (.ref 61), some (.int x1), some (.int x2), some (.int x3), some (.int x4), some (.int x5)], [], 0, 0)) (M' := (I, J, sm_rf t d)) rfl trivial (sm_W.iteD h (fun hc h => ?_) (fun hc h => ?_))
    · refine sm_W.run (sm_C_mono D) 4 (G := True) (fr' := (if decide (¬ x3 = (-1 : Int32)) = true then 53 else 47, [some (.ref 61), some (.int x1), some (.int (x2 + (1 : Int32))), some (.int x3), some (.int x4), some (.int x5)], [], 0, 0)) (M' := (I, J, sm_rf t d)) rfl trivial (sm_W.iteD h (fun hc h => ?_) (fun hc h => ?_))
      · refine sm_W.run (sm_C_mono D) 2 (G := True) (fr' := (34, [some (.ref 61), some (.int x1), some (.int (x2 + (1 : Int32))), some (.int x3), some (.int x4), some (.int (x5 + (1 : Int32)))], [], 0, 0)) (M' := (I, J, sm_rf t d)) rfl trivial ?_
        exact (hk34 _ _ _ _ _ _ h)
      · refine sm_W.runL (sm_C_mono D) 6 (G := True) (e := (((10 : Int32) * x4) + x5)) (fr' := fun a2 => (53, [some (.ref 61), some (.int x1), some (.int (x2 + (1 : Int32))), some (.int a2), some (.int x4), some (.int x5)], [], 0, 0)) (M' := fun _ => (I, J, sm_rf t d)) rfl h trivial (fun a2 h => ?_)
        refine sm_W.run (sm_C_mono D) 2 (G := True) (fr' := (34, [some (.ref 61), some (.int x1), some (.int (x2 + (1 : Int32))), some (.int a2), some (.int x4), some (.int (x5 + (1 : Int32)))], [], 0, 0)) (M' := (I, J, sm_rf t d)) rfl trivial ?_
        exact (hk34 _ _ _ _ _ _ h)
    · refine sm_W.run (sm_C_mono D) 3 (G := True) (fr' := (34, [some (.ref 61), some (.int x1), some (.int x2), some (.int x3), some (.int x4), some (.int (x5 + (1 : Int32)))], [], 0, 0)) (M' := (I, J, sm_rf t d)) rfl trivial ?_
      exact (hk34 _ _ _ _ _ _ h)
theorem G_Mo_flat_34 {X : Nat × (Nat → Int32)} {t d D : Nat} {Q : sm_Q} {J : sm_MJ} {k28 : Int32 → Int32 → Int32 → Int32 → sm_MI → Option (Int32 × sm_MI)} {rz : Int32} {Iz : sm_MI}
    (hD : 4 ≤ D) (hQ : Q (.inl (some (.int rz))) (Iz, J, sm_rf t d)) (hk28 : ∀ (x1 : Int32) (x2 : Int32) (x3 : Int32) (x4 : Int32) (I : sm_MI), k28 x1 x2 x3 x4 I = some (rz, Iz) → sm_W sm_sh X (sm_C sm_sh X sm_P D) me_261 Q (28, [some (.ref 61), some (.int x1), some (.int x2), some (.int x3), some (.int x4), none], [], 0, 0) (I, J, sm_rf t d)) : ∀ (n : Nat) (x1 : Int32) (x2 : Int32) (x3 : Int32) (x4 : Int32) (x5 : Int32) (I : sm_MI), F_Mo_flat_34 k28 n x1 x2 x3 x4 x5 I = some (rz, Iz) → sm_W sm_sh X (sm_C sm_sh X sm_P D) me_261 Q (34, [some (.ref 61), some (.int x1), some (.int x2), some (.int x3), some (.int x4), some (.int x5)], [], 0, 0) (I, J, sm_rf t d) := by
  intro n
  induction n with
  | zero => intro x1 x2 x3 x4 x5 I h; cases (show (none : Option (Int32 × sm_MI)) = some (rz, Iz) from h)
  | succ n ih => intro x1 x2 x3 x4 x5 I h; exact G_Mo_flat_34B hD (show F_Mo_flat_34B k28 (F_Mo_flat_34 k28 n) x1 x2 x3 x4 x5 I = some (rz, Iz) from h) hQ hk28 ih
theorem G_Mo_flat_28B {X : Nat × (Nat → Int32)} {t d D : Nat} {Q : sm_Q} {I : sm_MI} {J : sm_MJ} {k28 : Int32 → Int32 → Int32 → Int32 → sm_MI → Option (Int32 × sm_MI)} {x1 : Int32} {x2 : Int32} {x3 : Int32} {x4 : Int32} {rz : Int32} {Iz : sm_MI}
    (hD : 4 ≤ D) (h : F_Mo_flat_28B k28 x1 x2 x3 x4 I = some (rz, Iz)) (hQ : Q (.inl (some (.int rz))) (Iz, J, sm_rf t d)) (hk28 : ∀ (x1 : Int32) (x2 : Int32) (x3 : Int32) (x4 : Int32) (I : sm_MI), k28 x1 x2 x3 x4 I = some (rz, Iz) → sm_W sm_sh X (sm_C sm_sh X sm_P D) me_261 Q (28, [some (.ref 61), some (.int x1), some (.int x2), some (.int x3), some (.int x4), none], [], 0, 0) (I, J, sm_rf t d)) : sm_W sm_sh X (sm_C sm_sh X sm_P D) me_261 Q (28, [some (.ref 61), some (.int x1), some (.int x2), some (.int x3), some (.int x4), none], [], 0, 0) (I, J, sm_rf t d) := by
  unfold F_Mo_flat_28B at h
  refine sm_W.run (sm_C_mono D) 4 (G := True) (fr' := (if decide ((I 61 1) ≤ x4) = true then 57 else 32, [some (.ref 61), some (.int x1), some (.int x2), some (.int x3), some (.int x4), none], [], 0, 0)) (M' := (I, J, sm_rf t d)) rfl trivial (sm_W.iteD h (fun hc h => ?_) (fun hc h => ?_))
  · refine sm_W.run (sm_C_mono D) 2 (G := True) (fr' := (if decide (¬ x1 = 0) = true then 61 else 59, [some (.ref 61), some (.int x1), some (.int x2), some (.int x3), some (.int x4), none], [], 0, 0)) (M' := (I, J, sm_rf t d)) rfl trivial (sm_W.iteD h (fun hc h => ?_) (fun hc h => ?_))
    · refine sm_W.run (sm_C_mono D) 1 (G := True) (fr' := (62, [some (.ref 61), some (.int x1), some (.int x2), some (.int x3), some (.int x4), none], [.int x3], 0, 0)) (M' := (I, J, sm_rf t d)) rfl trivial ?_
      cases h
      exact sm_W.ret (sm_C_mono D) rfl hQ
    · refine sm_W.run (sm_C_mono D) 2 (G := True) (fr' := (62, [some (.ref 61), some (.int x1), some (.int x2), some (.int x3), some (.int x4), none], [.int x2], 0, 0)) (M' := (I, J, sm_rf t d)) rfl trivial ?_
      cases h
      exact sm_W.ret (sm_C_mono D) rfl hQ
  · refine sm_W.run (sm_C_mono D) 2 (G := True) (fr' := (34, [some (.ref 61), some (.int x1), some (.int x2), some (.int x3), some (.int x4), some (.int (1 : Int32))], [], 0, 0)) (M' := (I, J, sm_rf t d)) rfl trivial ?_
    exact (G_Mo_flat_34 hD hQ hk28 sd_fu _ _ _ _ _ _ h)
theorem G_Mo_flat_28 {X : Nat × (Nat → Int32)} {t d D : Nat} {Q : sm_Q} {J : sm_MJ} {rz : Int32} {Iz : sm_MI}
    (hD : 4 ≤ D) (hQ : Q (.inl (some (.int rz))) (Iz, J, sm_rf t d))  : ∀ (n : Nat) (x1 : Int32) (x2 : Int32) (x3 : Int32) (x4 : Int32) (I : sm_MI), F_Mo_flat_28 n x1 x2 x3 x4 I = some (rz, Iz) → sm_W sm_sh X (sm_C sm_sh X sm_P D) me_261 Q (28, [some (.ref 61), some (.int x1), some (.int x2), some (.int x3), some (.int x4), none], [], 0, 0) (I, J, sm_rf t d) := by
  intro n
  induction n with
  | zero => intro x1 x2 x3 x4 I h; cases (show (none : Option (Int32 × sm_MI)) = some (rz, Iz) from h)
  | succ n ih => intro x1 x2 x3 x4 I h; exact G_Mo_flat_28B hD (show F_Mo_flat_28B (F_Mo_flat_28 n) x1 x2 x3 x4 I = some (rz, Iz) from h) hQ  ih
theorem G_Mo_flat {X : Nat × (Nat → Int32)} {t d D : Nat} {Q : sm_Q} {I : sm_MI} {J : sm_MJ} {x1 : Int32} {rz : Int32} {Iz : sm_MI}
    (hD : 4 ≤ D) (h : F_Mo_flat x1 I = some (rz, Iz)) (hQ : Q (.inl (some (.int rz))) (Iz, J, sm_rf t d))  : sm_W sm_sh X (sm_C sm_sh X sm_P D) me_261 Q (0, [some (.ref 61), some (.int x1), none, none, none, none], [], 0, 0) (I, J, sm_rf t d) := by
  unfold F_Mo_flat at h
  refine sm_W.runL (sm_C_mono D) 3 (G := True) (e := (sd_up I 61 0 (0 : Int32))) (fr' := fun _ => (3, [some (.ref 61), some (.int x1), none, none, none, none], [], 0, 0)) (M' := fun I1 => (I1, J, sm_rf t d)) rfl h trivial (fun I1 h => ?_)
  refine sm_W.run (sm_C_mono D) 3 (G := True) (fr' := (6, [some (.ref 61), some (.int x1), none, none, none, none], [.int (2 : Int32), .int x1, .ref 61], 0, 0)) (M' := (I1, J, sm_rf t d)) rfl trivial ?_
  obtain ⟨r2, I3, hc, h⟩ := sd_q2_go h
  refine sm_W.cal (sm_C_mono D) (y := 206) (as := [.ref 61, .int x1, .int (2 : Int32)]) (fr' := (7, [some (.ref 61), some (.int x1), none, none, none, none], [], 0, 0)) rfl (T_Mo_isWhat (by omega) hc ?_)
  show sm_W sm_sh X (sm_C sm_sh X sm_P D) me_261 Q (7, [some (.ref 61), some (.int x1), none, none, none, none], [.int r2], 0, 0) (I3, J, sm_rf t d)
  refine sm_W.run (sm_C_mono D) 1 (G := True) (fr' := (if decide (¬ r2 = 0) = true then 10 else 8, [some (.ref 61), some (.int x1), none, none, none, none], [], 0, 0)) (M' := (I3, J, sm_rf t d)) rfl trivial (sm_W.iteD h (fun hc h => ?_) (fun hc h => ?_))
  · refine sm_W.run (sm_C_mono D) 3 (G := True) (fr' := (if decide (¬ x1 = (2 : Int32)) = true then 22 else 13, [some (.ref 61), some (.int x1), none, none, none, none], [], 0, 0)) (M' := (I3, J, sm_rf t d)) rfl trivial (sm_W.iteD h (fun hc h => ?_) (fun hc h => ?_))
    · refine sm_W.run (sm_C_mono D) 6 (G := True) (fr' := (28, [some (.ref 61), some (.int x1), some (.int (0 : Int32)), some (.int (-1 : Int32)), some (.int (0 : Int32)), none], [], 0, 0)) (M' := (I3, J, sm_rf t d)) rfl trivial ?_
      exact (G_Mo_flat_28 hD hQ sd_fu _ _ _ _ _ h)
    · refine sm_W.run (sm_C_mono D) 3 (G := True) (fr' := (16, [some (.ref 61), some (.int x1), none, none, none, none], [.int (0 : Int32), .int (-1 : Int32), .ref 61], 0, 0)) (M' := (I3, J, sm_rf t d)) rfl trivial ?_
      obtain ⟨r4, hc, h⟩ := sd_q1_go h
      refine sm_W.cal (sm_C_mono D) (y := 260) (as := [.ref 61, .int (-1 : Int32), .int (0 : Int32)]) (fr' := (17, [some (.ref 61), some (.int x1), none, none, none, none], [], 0, 0)) rfl (T_Mo_isHeard (by omega) hc ?_)
      show sm_W sm_sh X (sm_C sm_sh X sm_P D) me_261 Q (17, [some (.ref 61), some (.int x1), none, none, none, none], [.int r4], 0, 0) (I3, J, sm_rf t d)
      refine sm_W.run (sm_C_mono D) 1 (G := True) (fr' := (if decide (r4 = 0) = true then 20 else 18, [some (.ref 61), some (.int x1), none, none, none, none], [], 0, 0)) (M' := (I3, J, sm_rf t d)) rfl trivial (sm_W.iteD h (fun hc h => ?_) (fun hc h => ?_))
      · refine sm_W.run (sm_C_mono D) 1 (G := True) (fr' := (21, [some (.ref 61), some (.int x1), none, none, none, none], [.int (0 : Int32)], 0, 0)) (M' := (I3, J, sm_rf t d)) rfl trivial ?_
        cases h
        exact sm_W.ret (sm_C_mono D) rfl hQ
      · refine sm_W.run (sm_C_mono D) 2 (G := True) (fr' := (21, [some (.ref 61), some (.int x1), none, none, none, none], [.int (1 : Int32)], 0, 0)) (M' := (I3, J, sm_rf t d)) rfl trivial ?_
        cases h
        exact sm_W.ret (sm_C_mono D) rfl hQ
  · refine sm_W.run (sm_C_mono D) 1 (G := True) (fr' := (9, [some (.ref 61), some (.int x1), none, none, none, none], [.int (0 : Int32)], 0, 0)) (M' := (I3, J, sm_rf t d)) rfl trivial ?_
    cases h
    exact sm_W.ret (sm_C_mono D) rfl hQ
theorem T_Mo_flat {X : Nat × (Nat → Int32)} {t d D : Nat} {Q : sm_Q} {I : sm_MI} {J : sm_MJ} {x1 : Int32} {rz : Int32} {Iz : sm_MI}
    (hD : 5 ≤ D) (h : F_Mo_flat x1 I = some (rz, Iz)) (hQ : Q (.inl (some (.int rz))) (Iz, J, sm_rf t d)) : sm_C sm_sh X sm_P D 261 [.ref 61, .int x1] (I, J, sm_rf t d) Q := by
  cases D with
  | zero => omega
  | succ D => exact sm_C.of (me := me_261) (L := [some (.ref 61), some (.int x1), none, none, none, none]) rfl rfl rfl (sm_W.forget (L' := [some (.ref 61), some (.int x1), none, none, none, none]) ⟨rfl, ⟨rfl, trivial⟩⟩ (G_Mo_flat (by omega) h hQ))
-- 262 Mo_lays4
noncomputable def F_Mo_lays4_115 (k11 : Int32 → Int32 → Int32 → sm_MI → Option (sm_MI)) (x1 : Int32) (x2 : Int32) (x3 : Int32) (x6 : Int32) (s0 : Int32) (I : sm_MI) : Option (sm_MI) :=
  sd_gu (sm_in ((2 : Int32) * x3) 8 = true) <|
  sd_lt (sd_up I 92 (Int32.toNatClampNeg ((2 : Int32) * x3)) (x6 + s0)) fun I2 =>
  sd_gu (sm_in (((2 : Int32) * x3) + (1 : Int32)) 8 = true) <|
  sd_lt (sd_up I2 92 (Int32.toNatClampNeg (((2 : Int32) * x3) + (1 : Int32))) (s0 - x6)) fun I4 =>
  k11 x1 x2 (x3 + (1 : Int32)) I4
noncomputable def F_Mo_lays4_64B (k11 : Int32 → Int32 → Int32 → sm_MI → Option (sm_MI)) (k64 : Int32 → Int32 → Int32 → Int32 → Int32 → sm_MI → Option (sm_MI)) (x1 : Int32) (x2 : Int32) (x3 : Int32) (x6 : Int32) (x7 : Int32) (I : sm_MI) : Option (sm_MI) :=
  if (I 61 1) ≤ x7 then
    sd_q1 (F_Mo_areSo 87 (0 : Int32) I) fun r1 =>
    sd_q1 (F_Mo_sungBy r1 I) fun r2 =>
    sd_q1 (F_Mo_bits r2) fun r3 =>
    if ¬ r3 = x2 then
      F_Mo_lays4_115 k11 x1 x2 x3 x6 (0 : Int32) I
    else
      F_Mo_lays4_115 k11 x1 x2 x3 x6 x1 I
  else
    sd_gu (sm_in x7 16 = true) <|
    if ¬ (I 87 (Int32.toNatClampNeg x7)) = 0 then
      sd_lt (x6 + (0 : Int32)) fun a5 =>
      k64 x1 x2 x3 a5 (x7 + (1 : Int32)) I
    else
      sd_gu (sm_in x7 14 = true) <|
      if ¬ (I 62 (Int32.toNatClampNeg x7)) = (2 : Int32) then
        sd_gu (sm_in x7 14 = true) <|
        if ¬ (I 62 (Int32.toNatClampNeg x7)) = 0 then
          sd_gu (sm_in x7 14 = true) <|
          sd_lt (x6 + ((0 : Int32) - (I 66 (Int32.toNatClampNeg x7)))) fun a9 =>
          k64 x1 x2 x3 a9 (x7 + (1 : Int32)) I
        else
          sd_gu (sm_in x7 14 = true) <|
          sd_lt (x6 + (I 66 (Int32.toNatClampNeg x7))) fun a11 =>
          k64 x1 x2 x3 a11 (x7 + (1 : Int32)) I
      else
        sd_lt (x6 + (0 : Int32)) fun a12 =>
        k64 x1 x2 x3 a12 (x7 + (1 : Int32)) I
noncomputable def F_Mo_lays4_64 (k11 : Int32 → Int32 → Int32 → sm_MI → Option (sm_MI)) (n : Nat) : Int32 → Int32 → Int32 → Int32 → Int32 → sm_MI → Option (sm_MI) :=
  sd_fix (fun k x1 x2 x3 x6 x7 I => F_Mo_lays4_64B k11 k x1 x2 x3 x6 x7 I) (fun _ _ _ _ _ _ => none) n
noncomputable def F_Mo_lays4_52 (k11 : Int32 → Int32 → Int32 → sm_MI → Option (sm_MI)) (x1 : Int32) (x2 : Int32) (x3 : Int32) (x5 : Int32) (I : sm_MI) : Option (sm_MI) :=
  if x5 = (-1 : Int32) then
    F_Mo_lays4_64 k11 sd_fu x1 x2 x3 (0 : Int32) (0 : Int32) I
  else
    sd_gu (sm_in x5 16 = true) <|
    sd_lt (sd_up I 87 (Int32.toNatClampNeg x5) (2 : Int32)) fun I2 =>
    F_Mo_lays4_64 k11 sd_fu x1 x2 x3 (0 : Int32) (0 : Int32) I2
noncomputable def F_Mo_lays4_43 (k11 : Int32 → Int32 → Int32 → sm_MI → Option (sm_MI)) (x1 : Int32) (x2 : Int32) (x3 : Int32) (x4 : Int32) (s0 : Int32) (I : sm_MI) : Option (sm_MI) :=
  if x4 = (-1 : Int32) then
    F_Mo_lays4_52 k11 x1 x2 x3 s0 I
  else
    sd_gu (sm_in x4 16 = true) <|
    sd_lt (sd_up I 87 (Int32.toNatClampNeg x4) (2 : Int32)) fun I2 =>
    F_Mo_lays4_52 k11 x1 x2 x3 s0 I2
noncomputable def F_Mo_lays4_31 (k11 : Int32 → Int32 → Int32 → sm_MI → Option (sm_MI)) (x1 : Int32) (x2 : Int32) (x3 : Int32) (s0 : Int32) (I : sm_MI) : Option (sm_MI) :=
  sd_gu (¬ (2 : Int32) = 0) <|
  if ¬ (sd_mod x3 (2 : Int32)) = 0 then
    F_Mo_lays4_43 k11 x1 x2 x3 s0 (-1 : Int32) I
  else
    sd_q2 (F_Mo_aims 86 (1 : Int32) I) fun r2 I3 =>
    F_Mo_lays4_43 k11 x1 x2 x3 s0 r2 I3
noncomputable def F_Mo_lays4_11B (k11 : Int32 → Int32 → Int32 → sm_MI → Option (sm_MI)) (x1 : Int32) (x2 : Int32) (x3 : Int32) (I : sm_MI) : Option (sm_MI) :=
  if (4 : Int32) ≤ x3 then
    some (I)
  else
    sd_q1 (F_Mo_copies 86 87 I) fun I1 =>
    sd_gu (¬ (2 : Int32) = 0) <|
    if ¬ (x3 / (2 : Int32)) = 0 then
      F_Mo_lays4_31 k11 x1 x2 x3 (-1 : Int32) I1
    else
      sd_q2 (F_Mo_aims 86 (0 : Int32) I1) fun r3 I4 =>
      F_Mo_lays4_31 k11 x1 x2 x3 r3 I4
noncomputable def F_Mo_lays4_11  (n : Nat) : Int32 → Int32 → Int32 → sm_MI → Option (sm_MI) :=
  sd_fix (fun k x1 x2 x3 I => F_Mo_lays4_11B k x1 x2 x3 I) (fun _ _ _ _ => none) n
noncomputable def F_Mo_lays4 (x1 : Int32) (I : sm_MI) : Option (sm_MI) :=
  sd_q1 (F_Mo_areSo 86 (0 : Int32) I) fun r1 =>
  sd_q1 (F_Mo_sungBy r1 I) fun r2 =>
  sd_q1 (F_Mo_bits r2) fun r3 =>
  F_Mo_lays4_11 sd_fu x1 r3 (0 : Int32) I
theorem G_Mo_lays4_115 {X : Nat × (Nat → Int32)} {t d D : Nat} {Q : sm_Q} {I : sm_MI} {J : sm_MJ} {k11 : Int32 → Int32 → Int32 → sm_MI → Option (sm_MI)} {x1 : Int32} {x2 : Int32} {x3 : Int32} {x6 : Int32} {s0 : Int32} {Iz : sm_MI}
    (hD : 5 ≤ D) (h : F_Mo_lays4_115 k11 x1 x2 x3 x6 s0 I = some (Iz)) (hQ : Q (.inl none) (Iz, J, sm_rf t d)) (hk11 : ∀ (x1 : Int32) (x2 : Int32) (x3 : Int32) (I : sm_MI), k11 x1 x2 x3 I = some (Iz) → sm_W sm_sh X (sm_C sm_sh X sm_P D) me_262 Q (11, [some (.ref 61), some (.int x1), some (.int x2), some (.int x3), none, none, none, none], [], 0, 0) (I, J, sm_rf t d)) : sm_W sm_sh X (sm_C sm_sh X sm_P D) me_262 Q (115, [some (.ref 61), some (.int x1), some (.int x2), some (.int x3), none, none, some (.int x6), none], [.int s0], 0, 0) (I, J, sm_rf t d) := by
  unfold F_Mo_lays4_115 at h
  obtain ⟨g1, h⟩ := sd_gu_go h
  refine sm_W.runL (sm_C_mono D) 10 (G := sm_in ((2 : Int32) * x3) 8 = true ∧ True) (e := (sd_up I 92 (Int32.toNatClampNeg ((2 : Int32) * x3)) (x6 + s0))) (fr' := fun _ => (125, [some (.ref 61), some (.int x1), some (.int x2), some (.int x3), none, none, some (.int x6), some (.int s0)], [], 0, 0)) (M' := fun I2 => (I2, J, sm_rf t d)) rfl h ⟨g1, trivial⟩ (fun I2 h => ?_)
  obtain ⟨g3, h⟩ := sd_gu_go h
  refine sm_W.runL (sm_C_mono D) 11 (G := sm_in (((2 : Int32) * x3) + (1 : Int32)) 8 = true ∧ True) (e := (sd_up I2 92 (Int32.toNatClampNeg (((2 : Int32) * x3) + (1 : Int32))) (s0 - x6))) (fr' := fun _ => (136, [some (.ref 61), some (.int x1), some (.int x2), some (.int x3), none, none, some (.int x6), some (.int s0)], [], 0, 0)) (M' := fun I4 => (I4, J, sm_rf t d)) rfl h ⟨g3, trivial⟩ (fun I4 h => ?_)
  refine sm_W.run (sm_C_mono D) 2 (G := True) (fr' := (11, [some (.ref 61), some (.int x1), some (.int x2), some (.int (x3 + (1 : Int32))), none, none, some (.int x6), some (.int s0)], [], 0, 0)) (M' := (I4, J, sm_rf t d)) rfl trivial ?_
  exact sm_W.forget (L' := [some (.ref 61), some (.int x1), some (.int x2), some (.int (x3 + (1 : Int32))), none, none, none, none]) ⟨rfl, ⟨rfl, ⟨rfl, ⟨rfl, trivial⟩⟩⟩⟩ (hk11 _ _ _ _ h)
theorem G_Mo_lays4_64B {X : Nat × (Nat → Int32)} {t d D : Nat} {Q : sm_Q} {I : sm_MI} {J : sm_MJ} {k11 : Int32 → Int32 → Int32 → sm_MI → Option (sm_MI)} {k64 : Int32 → Int32 → Int32 → Int32 → Int32 → sm_MI → Option (sm_MI)} {x1 : Int32} {x2 : Int32} {x3 : Int32} {x6 : Int32} {x7 : Int32} {Iz : sm_MI}
    (hD : 5 ≤ D) (h : F_Mo_lays4_64B k11 k64 x1 x2 x3 x6 x7 I = some (Iz)) (hQ : Q (.inl none) (Iz, J, sm_rf t d)) (hk11 : ∀ (x1 : Int32) (x2 : Int32) (x3 : Int32) (I : sm_MI), k11 x1 x2 x3 I = some (Iz) → sm_W sm_sh X (sm_C sm_sh X sm_P D) me_262 Q (11, [some (.ref 61), some (.int x1), some (.int x2), some (.int x3), none, none, none, none], [], 0, 0) (I, J, sm_rf t d)) (hk64 : ∀ (x1 : Int32) (x2 : Int32) (x3 : Int32) (x6 : Int32) (x7 : Int32) (I : sm_MI), k64 x1 x2 x3 x6 x7 I = some (Iz) → sm_W sm_sh X (sm_C sm_sh X sm_P D) me_262 Q (64, [some (.ref 61), some (.int x1), some (.int x2), some (.int x3), none, none, some (.int x6), some (.int x7)], [], 0, 0) (I, J, sm_rf t d)) : sm_W sm_sh X (sm_C sm_sh X sm_P D) me_262 Q (64, [some (.ref 61), some (.int x1), some (.int x2), some (.int x3), none, none, some (.int x6), some (.int x7)], [], 0, 0) (I, J, sm_rf t d) := by
  unfold F_Mo_lays4_64B at h
  refine sm_W.run (sm_C_mono D) 4 (G := True) (fr' := (if decide ((I 61 1) ≤ x7) = true then 102 else 68, [some (.ref 61), some (.int x1), some (.int x2), some (.int x3), none, none, some (.int x6), some (.int x7)], [], 0, 0)) (M' := (I, J, sm_rf t d)) rfl trivial (sm_W.iteD h (fun hc h => ?_) (fun hc h => ?_))
  · refine sm_W.run (sm_C_mono D) 5 (G := True) (fr' := (107, [some (.ref 61), some (.int x1), some (.int x2), some (.int x3), none, none, some (.int x6), some (.int x7)], [.int (0 : Int32), .ref 87, .ref 61, .ref 61], 0, 0)) (M' := (I, J, sm_rf t d)) rfl trivial ?_
    obtain ⟨r1, hc, h⟩ := sd_q1_go h
    refine sm_W.cal (sm_C_mono D) (y := 196) (as := [.ref 61, .ref 87, .int (0 : Int32)]) (fr' := (108, [some (.ref 61), some (.int x1), some (.int x2), some (.int x3), none, none, some (.int x6), some (.int x7)], [.ref 61], 0, 0)) rfl (T_Mo_areSo (by omega) (by decide) hc ?_)
    show sm_W sm_sh X (sm_C sm_sh X sm_P D) me_262 Q (108, [some (.ref 61), some (.int x1), some (.int x2), some (.int x3), none, none, some (.int x6), some (.int x7)], [.int r1, .ref 61], 0, 0) (I, J, sm_rf t d)
    obtain ⟨r2, hc, h⟩ := sd_q1_go h
    refine sm_W.cal (sm_C_mono D) (y := 202) (as := [.ref 61, .int r1]) (fr' := (109, [some (.ref 61), some (.int x1), some (.int x2), some (.int x3), none, none, some (.int x6), some (.int x7)], [], 0, 0)) rfl (T_Mo_sungBy (by omega) hc ?_)
    show sm_W sm_sh X (sm_C sm_sh X sm_P D) me_262 Q (109, [some (.ref 61), some (.int x1), some (.int x2), some (.int x3), none, none, some (.int x6), some (.int x7)], [.int r2], 0, 0) (I, J, sm_rf t d)
    obtain ⟨r3, hc, h⟩ := sd_q1_go h
    refine sm_W.cal (sm_C_mono D) (y := 161) (as := [.int r2]) (fr' := (110, [some (.ref 61), some (.int x1), some (.int x2), some (.int x3), none, none, some (.int x6), some (.int x7)], [], 0, 0)) rfl (T_Mo_bits (by omega) hc ?_)
    show sm_W sm_sh X (sm_C sm_sh X sm_P D) me_262 Q (110, [some (.ref 61), some (.int x1), some (.int x2), some (.int x3), none, none, some (.int x6), some (.int x7)], [.int r3], 0, 0) (I, J, sm_rf t d)
    refine sm_W.run (sm_C_mono D) 2 (G := True) (fr' := (if decide (¬ r3 = x2) = true then 114 else 112, [some (.ref 61), some (.int x1), some (.int x2), some (.int x3), none, none, some (.int x6), some (.int x7)], [], 0, 0)) (M' := (I, J, sm_rf t d)) rfl trivial (sm_W.iteD h (fun hc h => ?_) (fun hc h => ?_))
    · refine sm_W.run (sm_C_mono D) 1 (G := True) (fr' := (115, [some (.ref 61), some (.int x1), some (.int x2), some (.int x3), none, none, some (.int x6), some (.int x7)], [.int (0 : Int32)], 0, 0)) (M' := (I, J, sm_rf t d)) rfl trivial ?_
      exact sm_W.forget (L' := [some (.ref 61), some (.int x1), some (.int x2), some (.int x3), none, none, some (.int x6), none]) ⟨rfl, ⟨rfl, ⟨rfl, ⟨rfl, ⟨rfl, trivial⟩⟩⟩⟩⟩ (G_Mo_lays4_115 hD h hQ hk11)
    · refine sm_W.run (sm_C_mono D) 2 (G := True) (fr' := (115, [some (.ref 61), some (.int x1), some (.int x2), some (.int x3), none, none, some (.int x6), some (.int x7)], [.int x1], 0, 0)) (M' := (I, J, sm_rf t d)) rfl trivial ?_
      exact sm_W.forget (L' := [some (.ref 61), some (.int x1), some (.int x2), some (.int x3), none, none, some (.int x6), none]) ⟨rfl, ⟨rfl, ⟨rfl, ⟨rfl, ⟨rfl, trivial⟩⟩⟩⟩⟩ (G_Mo_lays4_115 hD h hQ hk11)
  · obtain ⟨g4, h⟩ := sd_gu_go h
    refine sm_W.run (sm_C_mono D) 6 (G := sm_in x7 16 = true ∧ True) (fr' := (if decide (¬ (I 87 (Int32.toNatClampNeg x7)) = 0) = true then 80 else 74, [some (.ref 61), some (.int x1), some (.int x2), some (.int x3), none, none, some (.int x6), some (.int x7)], [.int x6], 0, 0)) (M' := (I, J, sm_rf t d)) rfl ⟨g4, trivial⟩ (sm_W.iteD h (fun hc h => ?_) (fun hc h => ?_))
    · refine sm_W.runL (sm_C_mono D) 4 (G := True) (e := (x6 + (0 : Int32))) (fr' := fun a5 => (100, [some (.ref 61), some (.int x1), some (.int x2), some (.int x3), none, none, some (.int a5), some (.int x7)], [], 0, 0)) (M' := fun _ => (I, J, sm_rf t d)) rfl h trivial (fun a5 h => ?_)
      refine sm_W.run (sm_C_mono D) 2 (G := True) (fr' := (64, [some (.ref 61), some (.int x1), some (.int x2), some (.int x3), none, none, some (.int a5), some (.int (x7 + (1 : Int32)))], [], 0, 0)) (M' := (I, J, sm_rf t d)) rfl trivial ?_
      exact (hk64 _ _ _ _ _ _ h)
    · obtain ⟨g6, h⟩ := sd_gu_go h
      refine sm_W.run (sm_C_mono D) 6 (G := sm_in x7 14 = true ∧ True) (fr' := (if decide (¬ (I 62 (Int32.toNatClampNeg x7)) = (2 : Int32)) = true then 82 else 80, [some (.ref 61), some (.int x1), some (.int x2), some (.int x3), none, none, some (.int x6), some (.int x7)], [.int x6], 0, 0)) (M' := (I, J, sm_rf t d)) rfl ⟨g6, trivial⟩ (sm_W.iteD h (fun hc h => ?_) (fun hc h => ?_))
      · obtain ⟨g7, h⟩ := sd_gu_go h
        refine sm_W.run (sm_C_mono D) 5 (G := sm_in x7 14 = true ∧ True) (fr' := (if decide (¬ (I 62 (Int32.toNatClampNeg x7)) = 0) = true then 92 else 87, [some (.ref 61), some (.int x1), some (.int x2), some (.int x3), none, none, some (.int x6), some (.int x7)], [.int x6], 0, 0)) (M' := (I, J, sm_rf t d)) rfl ⟨g7, trivial⟩ (sm_W.iteD h (fun hc h => ?_) (fun hc h => ?_))
        · obtain ⟨g8, h⟩ := sd_gu_go h
          refine sm_W.runL (sm_C_mono D) 8 (G := sm_in x7 14 = true ∧ True) (e := (x6 + ((0 : Int32) - (I 66 (Int32.toNatClampNeg x7))))) (fr' := fun a9 => (100, [some (.ref 61), some (.int x1), some (.int x2), some (.int x3), none, none, some (.int a9), some (.int x7)], [], 0, 0)) (M' := fun _ => (I, J, sm_rf t d)) rfl h ⟨g8, trivial⟩ (fun a9 h => ?_)
          refine sm_W.run (sm_C_mono D) 2 (G := True) (fr' := (64, [some (.ref 61), some (.int x1), some (.int x2), some (.int x3), none, none, some (.int a9), some (.int (x7 + (1 : Int32)))], [], 0, 0)) (M' := (I, J, sm_rf t d)) rfl trivial ?_
          exact (hk64 _ _ _ _ _ _ h)
        · obtain ⟨g10, h⟩ := sd_gu_go h
          refine sm_W.runL (sm_C_mono D) 7 (G := sm_in x7 14 = true ∧ True) (e := (x6 + (I 66 (Int32.toNatClampNeg x7)))) (fr' := fun a11 => (100, [some (.ref 61), some (.int x1), some (.int x2), some (.int x3), none, none, some (.int a11), some (.int x7)], [], 0, 0)) (M' := fun _ => (I, J, sm_rf t d)) rfl h ⟨g10, trivial⟩ (fun a11 h => ?_)
          refine sm_W.run (sm_C_mono D) 2 (G := True) (fr' := (64, [some (.ref 61), some (.int x1), some (.int x2), some (.int x3), none, none, some (.int a11), some (.int (x7 + (1 : Int32)))], [], 0, 0)) (M' := (I, J, sm_rf t d)) rfl trivial ?_
          exact (hk64 _ _ _ _ _ _ h)
      · refine sm_W.runL (sm_C_mono D) 4 (G := True) (e := (x6 + (0 : Int32))) (fr' := fun a12 => (100, [some (.ref 61), some (.int x1), some (.int x2), some (.int x3), none, none, some (.int a12), some (.int x7)], [], 0, 0)) (M' := fun _ => (I, J, sm_rf t d)) rfl h trivial (fun a12 h => ?_)
        refine sm_W.run (sm_C_mono D) 2 (G := True) (fr' := (64, [some (.ref 61), some (.int x1), some (.int x2), some (.int x3), none, none, some (.int a12), some (.int (x7 + (1 : Int32)))], [], 0, 0)) (M' := (I, J, sm_rf t d)) rfl trivial ?_
        exact (hk64 _ _ _ _ _ _ h)
theorem G_Mo_lays4_64 {X : Nat × (Nat → Int32)} {t d D : Nat} {Q : sm_Q} {J : sm_MJ} {k11 : Int32 → Int32 → Int32 → sm_MI → Option (sm_MI)} {Iz : sm_MI}
    (hD : 5 ≤ D) (hQ : Q (.inl none) (Iz, J, sm_rf t d)) (hk11 : ∀ (x1 : Int32) (x2 : Int32) (x3 : Int32) (I : sm_MI), k11 x1 x2 x3 I = some (Iz) → sm_W sm_sh X (sm_C sm_sh X sm_P D) me_262 Q (11, [some (.ref 61), some (.int x1), some (.int x2), some (.int x3), none, none, none, none], [], 0, 0) (I, J, sm_rf t d)) : ∀ (n : Nat) (x1 : Int32) (x2 : Int32) (x3 : Int32) (x6 : Int32) (x7 : Int32) (I : sm_MI), F_Mo_lays4_64 k11 n x1 x2 x3 x6 x7 I = some (Iz) → sm_W sm_sh X (sm_C sm_sh X sm_P D) me_262 Q (64, [some (.ref 61), some (.int x1), some (.int x2), some (.int x3), none, none, some (.int x6), some (.int x7)], [], 0, 0) (I, J, sm_rf t d) := by
  intro n
  induction n with
  | zero => intro x1 x2 x3 x6 x7 I h; cases (show (none : Option (sm_MI)) = some (Iz) from h)
  | succ n ih => intro x1 x2 x3 x6 x7 I h; exact G_Mo_lays4_64B hD (show F_Mo_lays4_64B k11 (F_Mo_lays4_64 k11 n) x1 x2 x3 x6 x7 I = some (Iz) from h) hQ hk11 ih
theorem G_Mo_lays4_52 {X : Nat × (Nat → Int32)} {t d D : Nat} {Q : sm_Q} {I : sm_MI} {J : sm_MJ} {k11 : Int32 → Int32 → Int32 → sm_MI → Option (sm_MI)} {x1 : Int32} {x2 : Int32} {x3 : Int32} {x5 : Int32} {Iz : sm_MI}
    (hD : 5 ≤ D) (h : F_Mo_lays4_52 k11 x1 x2 x3 x5 I = some (Iz)) (hQ : Q (.inl none) (Iz, J, sm_rf t d)) (hk11 : ∀ (x1 : Int32) (x2 : Int32) (x3 : Int32) (I : sm_MI), k11 x1 x2 x3 I = some (Iz) → sm_W sm_sh X (sm_C sm_sh X sm_P D) me_262 Q (11, [some (.ref 61), some (.int x1), some (.int x2), some (.int x3), none, none, none, none], [], 0, 0) (I, J, sm_rf t d)) : sm_W sm_sh X (sm_C sm_sh X sm_P D) me_262 Q (52, [some (.ref 61), some (.int x1), some (.int x2), some (.int x3), none, some (.int x5), none, none], [], 0, 0) (I, J, sm_rf t d) := by
  unfold F_Mo_lays4_52 at h
  refine sm_W.run (sm_C_mono D) 3 (G := True) (fr' := (if decide (x5 = (-1 : Int32)) = true then 60 else 55, [some (.ref 61), some (.int x1), some (.int x2), some (.int x3), none, some (.int x5), none, none], [], 0, 0)) (M' := (I, J, sm_rf t d)) rfl trivial (sm_W.iteD h (fun hc h => ?_) (fun hc h => ?_))
  · refine sm_W.run (sm_C_mono D) 4 (G := True) (fr' := (64, [some (.ref 61), some (.int x1), some (.int x2), some (.int x3), none, some (.int x5), some (.int (0 : Int32)), some (.int (0 : Int32))], [], 0, 0)) (M' := (I, J, sm_rf t d)) rfl trivial ?_
    exact sm_W.forget (L' := [some (.ref 61), some (.int x1), some (.int x2), some (.int x3), none, none, some (.int (0 : Int32)), some (.int (0 : Int32))]) ⟨rfl, ⟨rfl, ⟨rfl, ⟨rfl, ⟨rfl, ⟨rfl, trivial⟩⟩⟩⟩⟩⟩ (G_Mo_lays4_64 hD hQ hk11 sd_fu _ _ _ _ _ _ h)
  · obtain ⟨g1, h⟩ := sd_gu_go h
    refine sm_W.runL (sm_C_mono D) 5 (G := sm_in x5 16 = true ∧ True) (e := (sd_up I 87 (Int32.toNatClampNeg x5) (2 : Int32))) (fr' := fun _ => (60, [some (.ref 61), some (.int x1), some (.int x2), some (.int x3), none, some (.int x5), none, none], [], 0, 0)) (M' := fun I2 => (I2, J, sm_rf t d)) rfl h ⟨g1, trivial⟩ (fun I2 h => ?_)
    refine sm_W.run (sm_C_mono D) 4 (G := True) (fr' := (64, [some (.ref 61), some (.int x1), some (.int x2), some (.int x3), none, some (.int x5), some (.int (0 : Int32)), some (.int (0 : Int32))], [], 0, 0)) (M' := (I2, J, sm_rf t d)) rfl trivial ?_
    exact sm_W.forget (L' := [some (.ref 61), some (.int x1), some (.int x2), some (.int x3), none, none, some (.int (0 : Int32)), some (.int (0 : Int32))]) ⟨rfl, ⟨rfl, ⟨rfl, ⟨rfl, ⟨rfl, ⟨rfl, trivial⟩⟩⟩⟩⟩⟩ (G_Mo_lays4_64 hD hQ hk11 sd_fu _ _ _ _ _ _ h)
theorem G_Mo_lays4_43 {X : Nat × (Nat → Int32)} {t d D : Nat} {Q : sm_Q} {I : sm_MI} {J : sm_MJ} {k11 : Int32 → Int32 → Int32 → sm_MI → Option (sm_MI)} {x1 : Int32} {x2 : Int32} {x3 : Int32} {x4 : Int32} {s0 : Int32} {Iz : sm_MI}
    (hD : 5 ≤ D) (h : F_Mo_lays4_43 k11 x1 x2 x3 x4 s0 I = some (Iz)) (hQ : Q (.inl none) (Iz, J, sm_rf t d)) (hk11 : ∀ (x1 : Int32) (x2 : Int32) (x3 : Int32) (I : sm_MI), k11 x1 x2 x3 I = some (Iz) → sm_W sm_sh X (sm_C sm_sh X sm_P D) me_262 Q (11, [some (.ref 61), some (.int x1), some (.int x2), some (.int x3), none, none, none, none], [], 0, 0) (I, J, sm_rf t d)) : sm_W sm_sh X (sm_C sm_sh X sm_P D) me_262 Q (43, [some (.ref 61), some (.int x1), some (.int x2), some (.int x3), some (.int x4), none, none, none], [.int s0], 0, 0) (I, J, sm_rf t d) := by
  unfold F_Mo_lays4_43 at h
  refine sm_W.run (sm_C_mono D) 4 (G := True) (fr' := (if decide (x4 = (-1 : Int32)) = true then 52 else 47, [some (.ref 61), some (.int x1), some (.int x2), some (.int x3), some (.int x4), some (.int s0), none, none], [], 0, 0)) (M' := (I, J, sm_rf t d)) rfl trivial (sm_W.iteD h (fun hc h => ?_) (fun hc h => ?_))
  · exact sm_W.forget (L' := [some (.ref 61), some (.int x1), some (.int x2), some (.int x3), none, some (.int s0), none, none]) ⟨rfl, ⟨rfl, ⟨rfl, ⟨rfl, ⟨rfl, trivial⟩⟩⟩⟩⟩ (G_Mo_lays4_52 hD h hQ hk11)
  · obtain ⟨g1, h⟩ := sd_gu_go h
    refine sm_W.runL (sm_C_mono D) 5 (G := sm_in x4 16 = true ∧ True) (e := (sd_up I 87 (Int32.toNatClampNeg x4) (2 : Int32))) (fr' := fun _ => (52, [some (.ref 61), some (.int x1), some (.int x2), some (.int x3), some (.int x4), some (.int s0), none, none], [], 0, 0)) (M' := fun I2 => (I2, J, sm_rf t d)) rfl h ⟨g1, trivial⟩ (fun I2 h => ?_)
    exact sm_W.forget (L' := [some (.ref 61), some (.int x1), some (.int x2), some (.int x3), none, some (.int s0), none, none]) ⟨rfl, ⟨rfl, ⟨rfl, ⟨rfl, ⟨rfl, trivial⟩⟩⟩⟩⟩ (G_Mo_lays4_52 hD h hQ hk11)
theorem G_Mo_lays4_31 {X : Nat × (Nat → Int32)} {t d D : Nat} {Q : sm_Q} {I : sm_MI} {J : sm_MJ} {k11 : Int32 → Int32 → Int32 → sm_MI → Option (sm_MI)} {x1 : Int32} {x2 : Int32} {x3 : Int32} {s0 : Int32} {Iz : sm_MI}
    (hD : 5 ≤ D) (h : F_Mo_lays4_31 k11 x1 x2 x3 s0 I = some (Iz)) (hQ : Q (.inl none) (Iz, J, sm_rf t d)) (hk11 : ∀ (x1 : Int32) (x2 : Int32) (x3 : Int32) (I : sm_MI), k11 x1 x2 x3 I = some (Iz) → sm_W sm_sh X (sm_C sm_sh X sm_P D) me_262 Q (11, [some (.ref 61), some (.int x1), some (.int x2), some (.int x3), none, none, none, none], [], 0, 0) (I, J, sm_rf t d)) : sm_W sm_sh X (sm_C sm_sh X sm_P D) me_262 Q (31, [some (.ref 61), some (.int x1), some (.int x2), some (.int x3), none, none, none, none], [.int s0], 0, 0) (I, J, sm_rf t d) := by
  unfold F_Mo_lays4_31 at h
  obtain ⟨g1, h⟩ := sd_gu_go h
  refine sm_W.run (sm_C_mono D) 5 (G := ¬ (2 : Int32) = 0 ∧ True) (fr' := (if decide (¬ (sd_mod x3 (2 : Int32)) = 0) = true then 42 else 36, [some (.ref 61), some (.int x1), some (.int x2), some (.int x3), some (.int s0), none, none, none], [], 0, 0)) (M' := (I, J, sm_rf t d)) rfl ⟨g1, trivial⟩ (sm_W.iteD h (fun hc h => ?_) (fun hc h => ?_))
  · refine sm_W.run (sm_C_mono D) 1 (G := True) (fr' := (43, [some (.ref 61), some (.int x1), some (.int x2), some (.int x3), some (.int s0), none, none, none], [.int (-1 : Int32)], 0, 0)) (M' := (I, J, sm_rf t d)) rfl trivial ?_
    exact (G_Mo_lays4_43 hD h hQ hk11)
  · refine sm_W.run (sm_C_mono D) 4 (G := True) (fr' := (40, [some (.ref 61), some (.int x1), some (.int x2), some (.int x3), some (.int s0), none, none, none], [.int (1 : Int32), .ref 86, .ref 61], 0, 0)) (M' := (I, J, sm_rf t d)) rfl trivial ?_
    obtain ⟨r2, I3, hc, h⟩ := sd_q2_go h
    refine sm_W.cal (sm_C_mono D) (y := 215) (as := [.ref 61, .ref 86, .int (1 : Int32)]) (fr' := (41, [some (.ref 61), some (.int x1), some (.int x2), some (.int x3), some (.int s0), none, none, none], [], 0, 0)) rfl (T_Mo_aims (by omega) (by decide) hc ?_)
    show sm_W sm_sh X (sm_C sm_sh X sm_P D) me_262 Q (41, [some (.ref 61), some (.int x1), some (.int x2), some (.int x3), some (.int s0), none, none, none], [.int r2], 0, 0) (I3, J, sm_rf t d)
    refine sm_W.run (sm_C_mono D) 1 (G := True) (fr' := (43, [some (.ref 61), some (.int x1), some (.int x2), some (.int x3), some (.int s0), none, none, none], [.int r2], 0, 0)) (M' := (I3, J, sm_rf t d)) rfl trivial ?_
    exact (G_Mo_lays4_43 hD h hQ hk11)
theorem G_Mo_lays4_11B {X : Nat × (Nat → Int32)} {t d D : Nat} {Q : sm_Q} {I : sm_MI} {J : sm_MJ} {k11 : Int32 → Int32 → Int32 → sm_MI → Option (sm_MI)} {x1 : Int32} {x2 : Int32} {x3 : Int32} {Iz : sm_MI}
    (hD : 5 ≤ D) (h : F_Mo_lays4_11B k11 x1 x2 x3 I = some (Iz)) (hQ : Q (.inl none) (Iz, J, sm_rf t d)) (hk11 : ∀ (x1 : Int32) (x2 : Int32) (x3 : Int32) (I : sm_MI), k11 x1 x2 x3 I = some (Iz) → sm_W sm_sh X (sm_C sm_sh X sm_P D) me_262 Q (11, [some (.ref 61), some (.int x1), some (.int x2), some (.int x3), none, none, none, none], [], 0, 0) (I, J, sm_rf t d)) : sm_W sm_sh X (sm_C sm_sh X sm_P D) me_262 Q (11, [some (.ref 61), some (.int x1), some (.int x2), some (.int x3), none, none, none, none], [], 0, 0) (I, J, sm_rf t d) := by
  unfold F_Mo_lays4_11B at h
  refine sm_W.run (sm_C_mono D) 3 (G := True) (fr' := (if decide ((4 : Int32) ≤ x3) = true then 138 else 14, [some (.ref 61), some (.int x1), some (.int x2), some (.int x3), none, none, none, none], [], 0, 0)) (M' := (I, J, sm_rf t d)) rfl trivial (sm_W.iteD h (fun hc h => ?_) (fun hc h => ?_))
  · cases h
    exact sm_W.ret (sm_C_mono D) rfl hQ
  · refine sm_W.run (sm_C_mono D) 5 (G := True) (fr' := (19, [some (.ref 61), some (.int x1), some (.int x2), some (.int x3), none, none, none, none], [.ref 87, .ref 86, .ref 61], 0, 0)) (M' := (I, J, sm_rf t d)) rfl trivial ?_
    obtain ⟨I1, hc, h⟩ := sd_q1_go h
    refine sm_W.cal (sm_C_mono D) (y := 160) (as := [.ref 61, .ref 86, .ref 87]) (fr' := (20, [some (.ref 61), some (.int x1), some (.int x2), some (.int x3), none, none, none, none], [], 0, 0)) rfl (T_Mo_copies (by omega) (by decide) hc ?_)
    show sm_W sm_sh X (sm_C sm_sh X sm_P D) me_262 Q (20, [some (.ref 61), some (.int x1), some (.int x2), some (.int x3), none, none, none, none], [], 0, 0) (I1, J, sm_rf t d)
    obtain ⟨g2, h⟩ := sd_gu_go h
    refine sm_W.run (sm_C_mono D) 4 (G := ¬ (2 : Int32) = 0 ∧ True) (fr' := (if decide (¬ (x3 / (2 : Int32)) = 0) = true then 30 else 24, [some (.ref 61), some (.int x1), some (.int x2), some (.int x3), none, none, none, none], [], 0, 0)) (M' := (I1, J, sm_rf t d)) rfl ⟨g2, trivial⟩ (sm_W.iteD h (fun hc h => ?_) (fun hc h => ?_))
    · refine sm_W.run (sm_C_mono D) 1 (G := True) (fr' := (31, [some (.ref 61), some (.int x1), some (.int x2), some (.int x3), none, none, none, none], [.int (-1 : Int32)], 0, 0)) (M' := (I1, J, sm_rf t d)) rfl trivial ?_
      exact (G_Mo_lays4_31 hD h hQ hk11)
    · refine sm_W.run (sm_C_mono D) 4 (G := True) (fr' := (28, [some (.ref 61), some (.int x1), some (.int x2), some (.int x3), none, none, none, none], [.int (0 : Int32), .ref 86, .ref 61], 0, 0)) (M' := (I1, J, sm_rf t d)) rfl trivial ?_
      obtain ⟨r3, I4, hc, h⟩ := sd_q2_go h
      refine sm_W.cal (sm_C_mono D) (y := 215) (as := [.ref 61, .ref 86, .int (0 : Int32)]) (fr' := (29, [some (.ref 61), some (.int x1), some (.int x2), some (.int x3), none, none, none, none], [], 0, 0)) rfl (T_Mo_aims (by omega) (by decide) hc ?_)
      show sm_W sm_sh X (sm_C sm_sh X sm_P D) me_262 Q (29, [some (.ref 61), some (.int x1), some (.int x2), some (.int x3), none, none, none, none], [.int r3], 0, 0) (I4, J, sm_rf t d)
      refine sm_W.run (sm_C_mono D) 1 (G := True) (fr' := (31, [some (.ref 61), some (.int x1), some (.int x2), some (.int x3), none, none, none, none], [.int r3], 0, 0)) (M' := (I4, J, sm_rf t d)) rfl trivial ?_
      exact (G_Mo_lays4_31 hD h hQ hk11)
theorem G_Mo_lays4_11 {X : Nat × (Nat → Int32)} {t d D : Nat} {Q : sm_Q} {J : sm_MJ} {Iz : sm_MI}
    (hD : 5 ≤ D) (hQ : Q (.inl none) (Iz, J, sm_rf t d))  : ∀ (n : Nat) (x1 : Int32) (x2 : Int32) (x3 : Int32) (I : sm_MI), F_Mo_lays4_11 n x1 x2 x3 I = some (Iz) → sm_W sm_sh X (sm_C sm_sh X sm_P D) me_262 Q (11, [some (.ref 61), some (.int x1), some (.int x2), some (.int x3), none, none, none, none], [], 0, 0) (I, J, sm_rf t d) := by
  intro n
  induction n with
  | zero => intro x1 x2 x3 I h; cases (show (none : Option (sm_MI)) = some (Iz) from h)
  | succ n ih => intro x1 x2 x3 I h; exact G_Mo_lays4_11B hD (show F_Mo_lays4_11B (F_Mo_lays4_11 n) x1 x2 x3 I = some (Iz) from h) hQ  ih
theorem G_Mo_lays4 {X : Nat × (Nat → Int32)} {t d D : Nat} {Q : sm_Q} {I : sm_MI} {J : sm_MJ} {x1 : Int32} {Iz : sm_MI}
    (hD : 5 ≤ D) (h : F_Mo_lays4 x1 I = some (Iz)) (hQ : Q (.inl none) (Iz, J, sm_rf t d))  : sm_W sm_sh X (sm_C sm_sh X sm_P D) me_262 Q (0, [some (.ref 61), some (.int x1), none, none, none, none, none, none], [], 0, 0) (I, J, sm_rf t d) := by
  unfold F_Mo_lays4 at h
  refine sm_W.run (sm_C_mono D) 5 (G := True) (fr' := (5, [some (.ref 61), some (.int x1), none, none, none, none, none, none], [.int (0 : Int32), .ref 86, .ref 61, .ref 61], 0, 0)) (M' := (I, J, sm_rf t d)) rfl trivial ?_
  obtain ⟨r1, hc, h⟩ := sd_q1_go h
  refine sm_W.cal (sm_C_mono D) (y := 196) (as := [.ref 61, .ref 86, .int (0 : Int32)]) (fr' := (6, [some (.ref 61), some (.int x1), none, none, none, none, none, none], [.ref 61], 0, 0)) rfl (T_Mo_areSo (by omega) (by decide) hc ?_)
  show sm_W sm_sh X (sm_C sm_sh X sm_P D) me_262 Q (6, [some (.ref 61), some (.int x1), none, none, none, none, none, none], [.int r1, .ref 61], 0, 0) (I, J, sm_rf t d)
  obtain ⟨r2, hc, h⟩ := sd_q1_go h
  refine sm_W.cal (sm_C_mono D) (y := 202) (as := [.ref 61, .int r1]) (fr' := (7, [some (.ref 61), some (.int x1), none, none, none, none, none, none], [], 0, 0)) rfl (T_Mo_sungBy (by omega) hc ?_)
  show sm_W sm_sh X (sm_C sm_sh X sm_P D) me_262 Q (7, [some (.ref 61), some (.int x1), none, none, none, none, none, none], [.int r2], 0, 0) (I, J, sm_rf t d)
  obtain ⟨r3, hc, h⟩ := sd_q1_go h
  refine sm_W.cal (sm_C_mono D) (y := 161) (as := [.int r2]) (fr' := (8, [some (.ref 61), some (.int x1), none, none, none, none, none, none], [], 0, 0)) rfl (T_Mo_bits (by omega) hc ?_)
  show sm_W sm_sh X (sm_C sm_sh X sm_P D) me_262 Q (8, [some (.ref 61), some (.int x1), none, none, none, none, none, none], [.int r3], 0, 0) (I, J, sm_rf t d)
  refine sm_W.run (sm_C_mono D) 3 (G := True) (fr' := (11, [some (.ref 61), some (.int x1), some (.int r3), some (.int (0 : Int32)), none, none, none, none], [], 0, 0)) (M' := (I, J, sm_rf t d)) rfl trivial ?_
  exact (G_Mo_lays4_11 hD hQ sd_fu _ _ _ _ h)
theorem T_Mo_lays4 {X : Nat × (Nat → Int32)} {t d D : Nat} {Q : sm_Q} {I : sm_MI} {J : sm_MJ} {x1 : Int32} {Iz : sm_MI}
    (hD : 6 ≤ D) (h : F_Mo_lays4 x1 I = some (Iz)) (hQ : Q (.inl none) (Iz, J, sm_rf t d)) : sm_C sm_sh X sm_P D 262 [.ref 61, .int x1] (I, J, sm_rf t d) Q := by
  cases D with
  | zero => omega
  | succ D => exact sm_C.of (me := me_262) (L := [some (.ref 61), some (.int x1), none, none, none, none, none, none]) rfl rfl rfl (sm_W.forget (L' := [some (.ref 61), some (.int x1), none, none, none, none, none, none]) ⟨rfl, ⟨rfl, trivial⟩⟩ (G_Mo_lays4 (by omega) h hQ))
-- 263 Mo_game
noncomputable def F_Mo_game_47 (k27 : Int32 → Int32 → Int32 → Int32 → sm_MI → Option (Int32 × sm_MI)) (x2 : Int32) (x3 : Int32) (x4 : Int32) (x5 : Int32) (x6 : Int32) (s0 : Int32) (I : sm_MI) : Option (Int32 × sm_MI) :=
  sd_gu (sm_in ((2 : Int32) * x6) 8 = true) <|
  sd_gu (sm_in ((2 : Int32) * x5) 8 = true) <|
  if (I 92 (Int32.toNatClampNeg ((2 : Int32) * x5))) < (I 92 (Int32.toNatClampNeg ((2 : Int32) * x6))) then
    k27 x2 x3 x4 (x5 + (1 : Int32)) I
  else
    sd_gu (sm_in (((2 : Int32) * s0) + (1 : Int32)) 8 = true) <|
    sd_gu (sm_in (((2 : Int32) * x5) + (1 : Int32)) 8 = true) <|
    if (I 92 (Int32.toNatClampNeg (((2 : Int32) * s0) + (1 : Int32)))) ≤ (I 92 (Int32.toNatClampNeg (((2 : Int32) * x5) + (1 : Int32)))) then
      if ¬ x4 = (-1 : Int32) then
        k27 x2 (x3 + (1 : Int32)) x4 (x5 + (1 : Int32)) I
      else
        sd_gu (¬ (2 : Int32) = 0) <|
        sd_gu (¬ (2 : Int32) = 0) <|
        sd_lt (((10 : Int32) * (x5 / (2 : Int32))) + (sd_mod x5 (2 : Int32))) fun a7 =>
        k27 x2 (x3 + (1 : Int32)) a7 (x5 + (1 : Int32)) I
    else
      k27 x2 x3 x4 (x5 + (1 : Int32)) I
noncomputable def F_Mo_game_27B (k27 : Int32 → Int32 → Int32 → Int32 → sm_MI → Option (Int32 × sm_MI)) (x2 : Int32) (x3 : Int32) (x4 : Int32) (x5 : Int32) (I : sm_MI) : Option (Int32 × sm_MI) :=
  if (4 : Int32) ≤ x5 then
    if ¬ x2 = 0 then
      some (x4, I)
    else
      some (x3, I)
  else
    sd_gu (¬ (4 : Int32) = 0) <|
    sd_lt (sd_mod (x5 + (2 : Int32)) (4 : Int32)) fun a2 =>
    sd_gu (¬ (2 : Int32) = 0) <|
    if ¬ (sd_mod x5 (2 : Int32)) = 0 then
      F_Mo_game_47 k27 x2 x3 x4 x5 a2 (x5 - (1 : Int32)) I
    else
      F_Mo_game_47 k27 x2 x3 x4 x5 a2 (x5 + (1 : Int32)) I
noncomputable def F_Mo_game_27  (n : Nat) : Int32 → Int32 → Int32 → Int32 → sm_MI → Option (Int32 × sm_MI) :=
  sd_fix (fun k x2 x3 x4 x5 I => F_Mo_game_27B k x2 x3 x4 x5 I) (fun _ _ _ _ _ => none) n
noncomputable def F_Mo_game (x1 : Int32) (x2 : Int32) (I : sm_MI) : Option (Int32 × sm_MI) :=
  sd_lt (sd_up I 61 0 (0 : Int32)) fun I1 =>
  sd_q2 (F_Mo_isWhat x2 (1 : Int32) I1) fun r2 I3 =>
  if r2 = 0 then
    some ((0 : Int32), I3)
  else
    sd_q1 (F_Mo_within x1 (0 : Int32) (99 : Int32)) fun r4 =>
    sd_q2 (F_Mo_right r4 (2 : Int32) I3) fun r5 I6 =>
    if ¬ r5 = 0 then
      sd_q1 (F_Mo_lays4 x1 I6) fun I7 =>
      F_Mo_game_27 sd_fu x2 (0 : Int32) (-1 : Int32) (0 : Int32) I7
    else
      some ((0 : Int32), I6)
theorem G_Mo_game_47 {X : Nat × (Nat → Int32)} {t d D : Nat} {Q : sm_Q} {I : sm_MI} {J : sm_MJ} {k27 : Int32 → Int32 → Int32 → Int32 → sm_MI → Option (Int32 × sm_MI)} {x2 : Int32} {x3 : Int32} {x4 : Int32} {x5 : Int32} {x6 : Int32} {s0 : Int32} {rz : Int32} {Iz : sm_MI}
    (hD : 6 ≤ D) (h : F_Mo_game_47 k27 x2 x3 x4 x5 x6 s0 I = some (rz, Iz)) (hQ : Q (.inl (some (.int rz))) (Iz, J, sm_rf t d)) (hk27 : ∀ (x2 : Int32) (x3 : Int32) (x4 : Int32) (x5 : Int32) (I : sm_MI), k27 x2 x3 x4 x5 I = some (rz, Iz) → sm_W sm_sh X (sm_C sm_sh X sm_P D) me_263 Q (27, [some (.ref 61), none, some (.int x2), some (.int x3), some (.int x4), some (.int x5), none, none], [], 0, 0) (I, J, sm_rf t d)) : sm_W sm_sh X (sm_C sm_sh X sm_P D) me_263 Q (47, [some (.ref 61), none, some (.int x2), some (.int x3), some (.int x4), some (.int x5), some (.int x6), none], [.int s0], 0, 0) (I, J, sm_rf t d) := by
  unfold F_Mo_game_47 at h
  obtain ⟨g1, h⟩ := sd_gu_go h
  obtain ⟨g2, h⟩ := sd_gu_go h
  refine sm_W.run (sm_C_mono D) 14 (G := sm_in ((2 : Int32) * x6) 8 = true ∧ sm_in ((2 : Int32) * x5) 8 = true ∧ True) (fr' := (if decide ((I 92 (Int32.toNatClampNeg ((2 : Int32) * x5))) < (I 92 (Int32.toNatClampNeg ((2 : Int32) * x6)))) = true then 93 else 61, [some (.ref 61), none, some (.int x2), some (.int x3), some (.int x4), some (.int x5), some (.int x6), some (.int s0)], [], 0, 0)) (M' := (I, J, sm_rf t d)) rfl ⟨g1, g2, trivial⟩ (sm_W.iteD h (fun hc h => ?_) (fun hc h => ?_))
  · refine sm_W.run (sm_C_mono D) 2 (G := True) (fr' := (27, [some (.ref 61), none, some (.int x2), some (.int x3), some (.int x4), some (.int (x5 + (1 : Int32))), some (.int x6), some (.int s0)], [], 0, 0)) (M' := (I, J, sm_rf t d)) rfl trivial ?_
    exact sm_W.forget (L' := [some (.ref 61), none, some (.int x2), some (.int x3), some (.int x4), some (.int (x5 + (1 : Int32))), none, none]) ⟨rfl, ⟨rfl, ⟨rfl, ⟨rfl, ⟨rfl, trivial⟩⟩⟩⟩⟩ (hk27 _ _ _ _ _ h)
  · obtain ⟨g3, h⟩ := sd_gu_go h
    obtain ⟨g4, h⟩ := sd_gu_go h
    refine sm_W.run (sm_C_mono D) 17 (G := sm_in (((2 : Int32) * s0) + (1 : Int32)) 8 = true ∧ sm_in (((2 : Int32) * x5) + (1 : Int32)) 8 = true ∧ True) (fr' := (if decide ((I 92 (Int32.toNatClampNeg (((2 : Int32) * s0) + (1 : Int32)))) ≤ (I 92 (Int32.toNatClampNeg (((2 : Int32) * x5) + (1 : Int32))))) = true then 79 else 78, [some (.ref 61), none, some (.int x2), some (.int x3), some (.int x4), some (.int x5), some (.int x6), some (.int s0)], [], 0, 0)) (M' := (I, J, sm_rf t d)) rfl ⟨g3, g4, trivial⟩ (sm_W.iteD h (fun hc h => ?_) (fun hc h => ?_))
    · refine sm_W.run (sm_C_mono D) 4 (G := True) (fr' := (if decide (¬ x4 = (-1 : Int32)) = true then 93 else 83, [some (.ref 61), none, some (.int x2), some (.int (x3 + (1 : Int32))), some (.int x4), some (.int x5), some (.int x6), some (.int s0)], [], 0, 0)) (M' := (I, J, sm_rf t d)) rfl trivial (sm_W.iteD h (fun hc h => ?_) (fun hc h => ?_))
      · refine sm_W.run (sm_C_mono D) 2 (G := True) (fr' := (27, [some (.ref 61), none, some (.int x2), some (.int (x3 + (1 : Int32))), some (.int x4), some (.int (x5 + (1 : Int32))), some (.int x6), some (.int s0)], [], 0, 0)) (M' := (I, J, sm_rf t d)) rfl trivial ?_
        exact sm_W.forget (L' := [some (.ref 61), none, some (.int x2), some (.int (x3 + (1 : Int32))), some (.int x4), some (.int (x5 + (1 : Int32))), none, none]) ⟨rfl, ⟨rfl, ⟨rfl, ⟨rfl, ⟨rfl, trivial⟩⟩⟩⟩⟩ (hk27 _ _ _ _ _ h)
      · obtain ⟨g5, h⟩ := sd_gu_go h
        obtain ⟨g6, h⟩ := sd_gu_go h
        refine sm_W.runL (sm_C_mono D) 10 (G := ¬ (2 : Int32) = 0 ∧ ¬ (2 : Int32) = 0 ∧ True) (e := (((10 : Int32) * (x5 / (2 : Int32))) + (sd_mod x5 (2 : Int32)))) (fr' := fun a7 => (93, [some (.ref 61), none, some (.int x2), some (.int (x3 + (1 : Int32))), some (.int a7), some (.int x5), some (.int x6), some (.int s0)], [], 0, 0)) (M' := fun _ => (I, J, sm_rf t d)) rfl h ⟨g5, g6, trivial⟩ (fun a7 h => ?_)
        refine sm_W.run (sm_C_mono D) 2 (G := True) (fr' := (27, [some (.ref 61), none, some (.int x2), some (.int (x3 + (1 : Int32))), some (.int a7), some (.int (x5 + (1 : Int32))), some (.int x6), some (.int s0)], [], 0, 0)) (M' := (I, J, sm_rf t d)) rfl trivial ?_
        exact sm_W.forget (L' := [some (.ref 61), none, some (.int x2), some (.int (x3 + (1 : Int32))), some (.int a7), some (.int (x5 + (1 : Int32))), none, none]) ⟨rfl, ⟨rfl, ⟨rfl, ⟨rfl, ⟨rfl, trivial⟩⟩⟩⟩⟩ (hk27 _ _ _ _ _ h)
    · refine sm_W.run (sm_C_mono D) 3 (G := True) (fr' := (27, [some (.ref 61), none, some (.int x2), some (.int x3), some (.int x4), some (.int (x5 + (1 : Int32))), some (.int x6), some (.int s0)], [], 0, 0)) (M' := (I, J, sm_rf t d)) rfl trivial ?_
      exact sm_W.forget (L' := [some (.ref 61), none, some (.int x2), some (.int x3), some (.int x4), some (.int (x5 + (1 : Int32))), none, none]) ⟨rfl, ⟨rfl, ⟨rfl, ⟨rfl, ⟨rfl, trivial⟩⟩⟩⟩⟩ (hk27 _ _ _ _ _ h)
theorem G_Mo_game_27B {X : Nat × (Nat → Int32)} {t d D : Nat} {Q : sm_Q} {I : sm_MI} {J : sm_MJ} {k27 : Int32 → Int32 → Int32 → Int32 → sm_MI → Option (Int32 × sm_MI)} {x2 : Int32} {x3 : Int32} {x4 : Int32} {x5 : Int32} {rz : Int32} {Iz : sm_MI}
    (hD : 6 ≤ D) (h : F_Mo_game_27B k27 x2 x3 x4 x5 I = some (rz, Iz)) (hQ : Q (.inl (some (.int rz))) (Iz, J, sm_rf t d)) (hk27 : ∀ (x2 : Int32) (x3 : Int32) (x4 : Int32) (x5 : Int32) (I : sm_MI), k27 x2 x3 x4 x5 I = some (rz, Iz) → sm_W sm_sh X (sm_C sm_sh X sm_P D) me_263 Q (27, [some (.ref 61), none, some (.int x2), some (.int x3), some (.int x4), some (.int x5), none, none], [], 0, 0) (I, J, sm_rf t d)) : sm_W sm_sh X (sm_C sm_sh X sm_P D) me_263 Q (27, [some (.ref 61), none, some (.int x2), some (.int x3), some (.int x4), some (.int x5), none, none], [], 0, 0) (I, J, sm_rf t d) := by
  unfold F_Mo_game_27B at h
  refine sm_W.run (sm_C_mono D) 3 (G := True) (fr' := (if decide ((4 : Int32) ≤ x5) = true then 95 else 30, [some (.ref 61), none, some (.int x2), some (.int x3), some (.int x4), some (.int x5), none, none], [], 0, 0)) (M' := (I, J, sm_rf t d)) rfl trivial (sm_W.iteD h (fun hc h => ?_) (fun hc h => ?_))
  · refine sm_W.run (sm_C_mono D) 2 (G := True) (fr' := (if decide (¬ x2 = 0) = true then 99 else 97, [some (.ref 61), none, some (.int x2), some (.int x3), some (.int x4), some (.int x5), none, none], [], 0, 0)) (M' := (I, J, sm_rf t d)) rfl trivial (sm_W.iteD h (fun hc h => ?_) (fun hc h => ?_))
    · refine sm_W.run (sm_C_mono D) 1 (G := True) (fr' := (100, [some (.ref 61), none, some (.int x2), some (.int x3), some (.int x4), some (.int x5), none, none], [.int x4], 0, 0)) (M' := (I, J, sm_rf t d)) rfl trivial ?_
      cases h
      exact sm_W.ret (sm_C_mono D) rfl hQ
    · refine sm_W.run (sm_C_mono D) 2 (G := True) (fr' := (100, [some (.ref 61), none, some (.int x2), some (.int x3), some (.int x4), some (.int x5), none, none], [.int x3], 0, 0)) (M' := (I, J, sm_rf t d)) rfl trivial ?_
      cases h
      exact sm_W.ret (sm_C_mono D) rfl hQ
  · obtain ⟨g1, h⟩ := sd_gu_go h
    refine sm_W.runL (sm_C_mono D) 6 (G := ¬ (4 : Int32) = 0 ∧ True) (e := (sd_mod (x5 + (2 : Int32)) (4 : Int32))) (fr' := fun a2 => (36, [some (.ref 61), none, some (.int x2), some (.int x3), some (.int x4), some (.int x5), some (.int a2), none], [], 0, 0)) (M' := fun _ => (I, J, sm_rf t d)) rfl h ⟨g1, trivial⟩ (fun a2 h => ?_)
    obtain ⟨g3, h⟩ := sd_gu_go h
    refine sm_W.run (sm_C_mono D) 4 (G := ¬ (2 : Int32) = 0 ∧ True) (fr' := (if decide (¬ (sd_mod x5 (2 : Int32)) = 0) = true then 44 else 40, [some (.ref 61), none, some (.int x2), some (.int x3), some (.int x4), some (.int x5), some (.int a2), none], [], 0, 0)) (M' := (I, J, sm_rf t d)) rfl ⟨g3, trivial⟩ (sm_W.iteD h (fun hc h => ?_) (fun hc h => ?_))
    · refine sm_W.run (sm_C_mono D) 3 (G := True) (fr' := (47, [some (.ref 61), none, some (.int x2), some (.int x3), some (.int x4), some (.int x5), some (.int a2), none], [.int (x5 - (1 : Int32))], 0, 0)) (M' := (I, J, sm_rf t d)) rfl trivial ?_
      exact (G_Mo_game_47 hD h hQ hk27)
    · refine sm_W.run (sm_C_mono D) 4 (G := True) (fr' := (47, [some (.ref 61), none, some (.int x2), some (.int x3), some (.int x4), some (.int x5), some (.int a2), none], [.int (x5 + (1 : Int32))], 0, 0)) (M' := (I, J, sm_rf t d)) rfl trivial ?_
      exact (G_Mo_game_47 hD h hQ hk27)
theorem G_Mo_game_27 {X : Nat × (Nat → Int32)} {t d D : Nat} {Q : sm_Q} {J : sm_MJ} {rz : Int32} {Iz : sm_MI}
    (hD : 6 ≤ D) (hQ : Q (.inl (some (.int rz))) (Iz, J, sm_rf t d))  : ∀ (n : Nat) (x2 : Int32) (x3 : Int32) (x4 : Int32) (x5 : Int32) (I : sm_MI), F_Mo_game_27 n x2 x3 x4 x5 I = some (rz, Iz) → sm_W sm_sh X (sm_C sm_sh X sm_P D) me_263 Q (27, [some (.ref 61), none, some (.int x2), some (.int x3), some (.int x4), some (.int x5), none, none], [], 0, 0) (I, J, sm_rf t d) := by
  intro n
  induction n with
  | zero => intro x2 x3 x4 x5 I h; cases (show (none : Option (Int32 × sm_MI)) = some (rz, Iz) from h)
  | succ n ih => intro x2 x3 x4 x5 I h; exact G_Mo_game_27B hD (show F_Mo_game_27B (F_Mo_game_27 n) x2 x3 x4 x5 I = some (rz, Iz) from h) hQ  ih
theorem G_Mo_game {X : Nat × (Nat → Int32)} {t d D : Nat} {Q : sm_Q} {I : sm_MI} {J : sm_MJ} {x1 : Int32} {x2 : Int32} {rz : Int32} {Iz : sm_MI}
    (hD : 6 ≤ D) (h : F_Mo_game x1 x2 I = some (rz, Iz)) (hQ : Q (.inl (some (.int rz))) (Iz, J, sm_rf t d))  : sm_W sm_sh X (sm_C sm_sh X sm_P D) me_263 Q (0, [some (.ref 61), some (.int x1), some (.int x2), none, none, none, none, none], [], 0, 0) (I, J, sm_rf t d) := by
  unfold F_Mo_game at h
  refine sm_W.runL (sm_C_mono D) 3 (G := True) (e := (sd_up I 61 0 (0 : Int32))) (fr' := fun _ => (3, [some (.ref 61), some (.int x1), some (.int x2), none, none, none, none, none], [], 0, 0)) (M' := fun I1 => (I1, J, sm_rf t d)) rfl h trivial (fun I1 h => ?_)
  refine sm_W.run (sm_C_mono D) 3 (G := True) (fr' := (6, [some (.ref 61), some (.int x1), some (.int x2), none, none, none, none, none], [.int (1 : Int32), .int x2, .ref 61], 0, 0)) (M' := (I1, J, sm_rf t d)) rfl trivial ?_
  obtain ⟨r2, I3, hc, h⟩ := sd_q2_go h
  refine sm_W.cal (sm_C_mono D) (y := 206) (as := [.ref 61, .int x2, .int (1 : Int32)]) (fr' := (7, [some (.ref 61), some (.int x1), some (.int x2), none, none, none, none, none], [], 0, 0)) rfl (T_Mo_isWhat (by omega) hc ?_)
  show sm_W sm_sh X (sm_C sm_sh X sm_P D) me_263 Q (7, [some (.ref 61), some (.int x1), some (.int x2), none, none, none, none, none], [.int r2], 0, 0) (I3, J, sm_rf t d)
  refine sm_W.run (sm_C_mono D) 1 (G := True) (fr' := (if decide (r2 = 0) = true then 16 else 8, [some (.ref 61), some (.int x1), some (.int x2), none, none, none, none, none], [], 0, 0)) (M' := (I3, J, sm_rf t d)) rfl trivial (sm_W.iteD h (fun hc h => ?_) (fun hc h => ?_))
  · refine sm_W.run (sm_C_mono D) 1 (G := True) (fr' := (17, [some (.ref 61), some (.int x1), some (.int x2), none, none, none, none, none], [.int (0 : Int32)], 0, 0)) (M' := (I3, J, sm_rf t d)) rfl trivial ?_
    cases h
    exact sm_W.ret (sm_C_mono D) rfl hQ
  · refine sm_W.run (sm_C_mono D) 4 (G := True) (fr' := (12, [some (.ref 61), some (.int x1), some (.int x2), none, none, none, none, none], [.int (99 : Int32), .int (0 : Int32), .int x1, .ref 61], 0, 0)) (M' := (I3, J, sm_rf t d)) rfl trivial ?_
    obtain ⟨r4, hc, h⟩ := sd_q1_go h
    refine sm_W.cal (sm_C_mono D) (y := 159) (as := [.int x1, .int (0 : Int32), .int (99 : Int32)]) (fr' := (13, [some (.ref 61), some (.int x1), some (.int x2), none, none, none, none, none], [.ref 61], 0, 0)) rfl (T_Mo_within (by omega) hc ?_)
    show sm_W sm_sh X (sm_C sm_sh X sm_P D) me_263 Q (13, [some (.ref 61), some (.int x1), some (.int x2), none, none, none, none, none], [.int r4, .ref 61], 0, 0) (I3, J, sm_rf t d)
    refine sm_W.run (sm_C_mono D) 1 (G := True) (fr' := (14, [some (.ref 61), some (.int x1), some (.int x2), none, none, none, none, none], [.int (2 : Int32), .int r4, .ref 61], 0, 0)) (M' := (I3, J, sm_rf t d)) rfl trivial ?_
    obtain ⟨r5, I6, hc, h⟩ := sd_q2_go h
    refine sm_W.cal (sm_C_mono D) (y := 158) (as := [.ref 61, .int r4, .int (2 : Int32)]) (fr' := (15, [some (.ref 61), some (.int x1), some (.int x2), none, none, none, none, none], [], 0, 0)) rfl (T_Mo_right (by omega) hc ?_)
    show sm_W sm_sh X (sm_C sm_sh X sm_P D) me_263 Q (15, [some (.ref 61), some (.int x1), some (.int x2), none, none, none, none, none], [.int r5], 0, 0) (I6, J, sm_rf t d)
    refine sm_W.run (sm_C_mono D) 1 (G := True) (fr' := (if decide (¬ r5 = 0) = true then 18 else 16, [some (.ref 61), some (.int x1), some (.int x2), none, none, none, none, none], [], 0, 0)) (M' := (I6, J, sm_rf t d)) rfl trivial (sm_W.iteD h (fun hc h => ?_) (fun hc h => ?_))
    · refine sm_W.run (sm_C_mono D) 2 (G := True) (fr' := (20, [some (.ref 61), some (.int x1), some (.int x2), none, none, none, none, none], [.int x1, .ref 61], 0, 0)) (M' := (I6, J, sm_rf t d)) rfl trivial ?_
      obtain ⟨I7, hc, h⟩ := sd_q1_go h
      refine sm_W.cal (sm_C_mono D) (y := 262) (as := [.ref 61, .int x1]) (fr' := (21, [some (.ref 61), some (.int x1), some (.int x2), none, none, none, none, none], [], 0, 0)) rfl (T_Mo_lays4 (by omega) hc ?_)
      show sm_W sm_sh X (sm_C sm_sh X sm_P D) me_263 Q (21, [some (.ref 61), some (.int x1), some (.int x2), none, none, none, none, none], [], 0, 0) (I7, J, sm_rf t d)
      refine sm_W.run (sm_C_mono D) 6 (G := True) (fr' := (27, [some (.ref 61), some (.int x1), some (.int x2), some (.int (0 : Int32)), some (.int (-1 : Int32)), some (.int (0 : Int32)), none, none], [], 0, 0)) (M' := (I7, J, sm_rf t d)) rfl trivial ?_
      exact sm_W.forget (L' := [some (.ref 61), none, some (.int x2), some (.int (0 : Int32)), some (.int (-1 : Int32)), some (.int (0 : Int32)), none, none]) ⟨rfl, ⟨rfl, ⟨rfl, ⟨rfl, ⟨rfl, trivial⟩⟩⟩⟩⟩ (G_Mo_game_27 hD hQ sd_fu _ _ _ _ _ h)
    · refine sm_W.run (sm_C_mono D) 1 (G := True) (fr' := (17, [some (.ref 61), some (.int x1), some (.int x2), none, none, none, none, none], [.int (0 : Int32)], 0, 0)) (M' := (I6, J, sm_rf t d)) rfl trivial ?_
      cases h
      exact sm_W.ret (sm_C_mono D) rfl hQ
theorem T_Mo_game {X : Nat × (Nat → Int32)} {t d D : Nat} {Q : sm_Q} {I : sm_MI} {J : sm_MJ} {x1 : Int32} {x2 : Int32} {rz : Int32} {Iz : sm_MI}
    (hD : 7 ≤ D) (h : F_Mo_game x1 x2 I = some (rz, Iz)) (hQ : Q (.inl (some (.int rz))) (Iz, J, sm_rf t d)) : sm_C sm_sh X sm_P D 263 [.ref 61, .int x1, .int x2] (I, J, sm_rf t d) Q := by
  cases D with
  | zero => omega
  | succ D => exact sm_C.of (me := me_263) (L := [some (.ref 61), some (.int x1), some (.int x2), none, none, none, none, none]) rfl rfl rfl (sm_W.forget (L' := [some (.ref 61), some (.int x1), some (.int x2), none, none, none, none, none]) ⟨rfl, ⟨rfl, ⟨rfl, trivial⟩⟩⟩ (G_Mo_game (by omega) h hQ))
-- 264 Mo_draw
noncomputable def F_Mo_draw (x1 : Int32) (I : sm_MI) : Option (Int32 × sm_MI) :=
  sd_lt (sd_up I 61 56 (((I 61 56) * (1103515245 : Int32)) + (12345 : Int32))) fun I1 =>
  sd_gu (¬ x1 = 0) <|
  some ((sd_mod (((I1 61 56) >>> ((16 : Int32) &&& 31)) &&& (32767 : Int32)) x1), I1)
theorem G_Mo_draw {X : Nat × (Nat → Int32)} {t d D : Nat} {Q : sm_Q} {I : sm_MI} {J : sm_MJ} {x1 : Int32} {rz : Int32} {Iz : sm_MI}
    (hD : 0 ≤ D) (h : F_Mo_draw x1 I = some (rz, Iz)) (hQ : Q (.inl (some (.int rz))) (Iz, J, sm_rf t d))  : sm_W sm_sh X (sm_C sm_sh X sm_P D) me_264 Q (0, [some (.ref 61), some (.int x1)], [], 0, 0) (I, J, sm_rf t d) := by
  unfold F_Mo_draw at h
  refine sm_W.runL (sm_C_mono D) 8 (G := True) (e := (sd_up I 61 56 (((I 61 56) * (1103515245 : Int32)) + (12345 : Int32)))) (fr' := fun _ => (8, [some (.ref 61), some (.int x1)], [], 0, 0)) (M' := fun I1 => (I1, J, sm_rf t d)) rfl h trivial (fun I1 h => ?_)
  obtain ⟨g2, h⟩ := sd_gu_go h
  refine sm_W.run (sm_C_mono D) 8 (G := ¬ x1 = 0 ∧ True) (fr' := (16, [some (.ref 61), some (.int x1)], [.int (sd_mod (((I1 61 56) >>> ((16 : Int32) &&& 31)) &&& (32767 : Int32)) x1)], 0, 0)) (M' := (I1, J, sm_rf t d)) rfl ⟨g2, trivial⟩ ?_
  cases h
  exact sm_W.ret (sm_C_mono D) rfl hQ
theorem T_Mo_draw {X : Nat × (Nat → Int32)} {t d D : Nat} {Q : sm_Q} {I : sm_MI} {J : sm_MJ} {x1 : Int32} {rz : Int32} {Iz : sm_MI}
    (hD : 1 ≤ D) (h : F_Mo_draw x1 I = some (rz, Iz)) (hQ : Q (.inl (some (.int rz))) (Iz, J, sm_rf t d)) : sm_C sm_sh X sm_P D 264 [.ref 61, .int x1] (I, J, sm_rf t d) Q := by
  cases D with
  | zero => omega
  | succ D => exact sm_C.of (me := me_264) (L := [some (.ref 61), some (.int x1)]) rfl rfl rfl (sm_W.forget (L' := [some (.ref 61), some (.int x1)]) ⟨rfl, ⟨rfl, trivial⟩⟩ (G_Mo_draw (by omega) h hQ))
-- 265 Mo_wars
noncomputable def F_Mo_wars_60 (k29 : Int32 → Int32 → Int32 → sm_MI → Option (Int32 × sm_MI)) (x2 : Int32) (x3 : Int32) (x4 : Int32) (I : sm_MI) : Option (Int32 × sm_MI) :=
  sd_q2 (F_Mo_dayGoes 87 I) fun r1 I2 =>
  k29 x2 x3 (x4 + (1 : Int32)) I2
noncomputable def F_Mo_wars_29B (k29 : Int32 → Int32 → Int32 → sm_MI → Option (Int32 × sm_MI)) (x2 : Int32) (x3 : Int32) (x4 : Int32) (I : sm_MI) : Option (Int32 × sm_MI) :=
  if x2 ≤ x4 then
    if ¬ x3 = 0 then
      if ¬ x3 = (1 : Int32) then
        sd_q1 (F_Mo_areSo 87 (0 : Int32) I) fun r1 =>
        sd_q1 (F_Mo_sungBy r1 I) fun r2 =>
        sd_q1 (F_Mo_bits r2) fun r3 =>
        some (r3, I)
      else
        sd_gu (sm_in (15 : Int32) 16 = true) <|
        sd_gu (sm_in (15 : Int32) 16 = true) <|
        some (((I 87 15) - (I 86 15)), I)
    else
      sd_q1 (F_Mo_areSo 87 (2 : Int32) I) fun r6 =>
      sd_q1 (F_Mo_bits r6) fun r7 =>
      some (r7, I)
  else
    if (I 61 1) ≤ 0 then
      F_Mo_wars_60 k29 x2 x3 x4 I
    else
      sd_q2 (F_Mo_draw (I 61 1) I) fun r8 I9 =>
      sd_gu (sm_in r8 16 = true) <|
      if ¬ (I9 87 (Int32.toNatClampNeg r8)) = 0 then
        sd_gu (sm_in r8 16 = true) <|
        if ¬ (I9 87 (Int32.toNatClampNeg r8)) = (1 : Int32) then
          sd_gu (sm_in r8 16 = true) <|
          sd_lt (sd_up I9 87 (Int32.toNatClampNeg r8) (2 : Int32)) fun I13 =>
          F_Mo_wars_60 k29 x2 x3 x4 I13
        else
          sd_gu (sm_in r8 16 = true) <|
          sd_lt (sd_up I9 87 (Int32.toNatClampNeg r8) (0 : Int32)) fun I15 =>
          F_Mo_wars_60 k29 x2 x3 x4 I15
      else
        sd_gu (sm_in r8 16 = true) <|
        sd_lt (sd_up I9 87 (Int32.toNatClampNeg r8) (1 : Int32)) fun I17 =>
        F_Mo_wars_60 k29 x2 x3 x4 I17
noncomputable def F_Mo_wars_29  (n : Nat) : Int32 → Int32 → Int32 → sm_MI → Option (Int32 × sm_MI) :=
  sd_fix (fun k x2 x3 x4 I => F_Mo_wars_29B k x2 x3 x4 I) (fun _ _ _ _ => none) n
noncomputable def F_Mo_wars (x1 : Int32) (x2 : Int32) (x3 : Int32) (I : sm_MI) : Option (Int32 × sm_MI) :=
  sd_lt (sd_up I 61 0 (0 : Int32)) fun I1 =>
  sd_q2 (F_Mo_isWhat x3 (2 : Int32) I1) fun r2 I3 =>
  if r2 = 0 then
    some ((0 : Int32), I3)
  else
    sd_q1 (F_Mo_within x2 (0 : Int32) (60 : Int32)) fun r4 =>
    sd_q2 (F_Mo_right r4 (2 : Int32) I3) fun r5 I6 =>
    if ¬ r5 = 0 then
      sd_q1 (F_Mo_copies 86 87 I6) fun I7 =>
      sd_lt (sd_up I7 61 56 x1) fun I8 =>
      F_Mo_wars_29 sd_fu x2 x3 (0 : Int32) I8
    else
      some ((0 : Int32), I6)
theorem G_Mo_wars_60 {X : Nat × (Nat → Int32)} {t d D : Nat} {Q : sm_Q} {I : sm_MI} {J : sm_MJ} {k29 : Int32 → Int32 → Int32 → sm_MI → Option (Int32 × sm_MI)} {x2 : Int32} {x3 : Int32} {x4 : Int32} {rz : Int32} {Iz : sm_MI}
    (hD : 7 ≤ D) (h : F_Mo_wars_60 k29 x2 x3 x4 I = some (rz, Iz)) (hQ : Q (.inl (some (.int rz))) (Iz, J, sm_rf t d)) (hk29 : ∀ (x2 : Int32) (x3 : Int32) (x4 : Int32) (I : sm_MI), k29 x2 x3 x4 I = some (rz, Iz) → sm_W sm_sh X (sm_C sm_sh X sm_P D) me_265 Q (29, [some (.ref 61), none, some (.int x2), some (.int x3), some (.int x4), none], [], 0, 0) (I, J, sm_rf t d)) : sm_W sm_sh X (sm_C sm_sh X sm_P D) me_265 Q (60, [some (.ref 61), none, some (.int x2), some (.int x3), some (.int x4), none], [], 0, 0) (I, J, sm_rf t d) := by
  unfold F_Mo_wars_60 at h
  refine sm_W.run (sm_C_mono D) 3 (G := True) (fr' := (63, [some (.ref 61), none, some (.int x2), some (.int x3), some (.int x4), none], [.ref 87, .ref 61], 0, 0)) (M' := (I, J, sm_rf t d)) rfl trivial ?_
  obtain ⟨r1, I2, hc, h⟩ := sd_q2_go h
  refine sm_W.cal (sm_C_mono D) (y := 216) (as := [.ref 61, .ref 87]) (fr' := (64, [some (.ref 61), none, some (.int x2), some (.int x3), some (.int x4), none], [], 0, 0)) rfl (T_Mo_dayGoes (by omega) (by decide) hc ?_)
  show sm_W sm_sh X (sm_C sm_sh X sm_P D) me_265 Q (64, [some (.ref 61), none, some (.int x2), some (.int x3), some (.int x4), none], [.int r1], 0, 0) (I2, J, sm_rf t d)
  refine sm_W.run (sm_C_mono D) 3 (G := True) (fr' := (29, [some (.ref 61), none, some (.int x2), some (.int x3), some (.int (x4 + (1 : Int32))), none], [], 0, 0)) (M' := (I2, J, sm_rf t d)) rfl trivial ?_
  exact (hk29 _ _ _ _ h)
theorem G_Mo_wars_29B {X : Nat × (Nat → Int32)} {t d D : Nat} {Q : sm_Q} {I : sm_MI} {J : sm_MJ} {k29 : Int32 → Int32 → Int32 → sm_MI → Option (Int32 × sm_MI)} {x2 : Int32} {x3 : Int32} {x4 : Int32} {rz : Int32} {Iz : sm_MI}
    (hD : 7 ≤ D) (h : F_Mo_wars_29B k29 x2 x3 x4 I = some (rz, Iz)) (hQ : Q (.inl (some (.int rz))) (Iz, J, sm_rf t d)) (hk29 : ∀ (x2 : Int32) (x3 : Int32) (x4 : Int32) (I : sm_MI), k29 x2 x3 x4 I = some (rz, Iz) → sm_W sm_sh X (sm_C sm_sh X sm_P D) me_265 Q (29, [some (.ref 61), none, some (.int x2), some (.int x3), some (.int x4), none], [], 0, 0) (I, J, sm_rf t d)) : sm_W sm_sh X (sm_C sm_sh X sm_P D) me_265 Q (29, [some (.ref 61), none, some (.int x2), some (.int x3), some (.int x4), none], [], 0, 0) (I, J, sm_rf t d) := by
  unfold F_Mo_wars_29B at h
  refine sm_W.run (sm_C_mono D) 3 (G := True) (fr' := (if decide (x2 ≤ x4) = true then 67 else 32, [some (.ref 61), none, some (.int x2), some (.int x3), some (.int x4), none], [], 0, 0)) (M' := (I, J, sm_rf t d)) rfl trivial (sm_W.iteD h (fun hc h => ?_) (fun hc h => ?_))
  · refine sm_W.run (sm_C_mono D) 2 (G := True) (fr' := (if decide (¬ x3 = 0) = true then 76 else 69, [some (.ref 61), none, some (.int x2), some (.int x3), some (.int x4), none], [], 0, 0)) (M' := (I, J, sm_rf t d)) rfl trivial (sm_W.iteD h (fun hc h => ?_) (fun hc h => ?_))
    · refine sm_W.run (sm_C_mono D) 3 (G := True) (fr' := (if decide (¬ x3 = (1 : Int32)) = true then 89 else 79, [some (.ref 61), none, some (.int x2), some (.int x3), some (.int x4), none], [], 0, 0)) (M' := (I, J, sm_rf t d)) rfl trivial (sm_W.iteD h (fun hc h => ?_) (fun hc h => ?_))
      · refine sm_W.run (sm_C_mono D) 5 (G := True) (fr' := (94, [some (.ref 61), none, some (.int x2), some (.int x3), some (.int x4), none], [.int (0 : Int32), .ref 87, .ref 61, .ref 61], 0, 0)) (M' := (I, J, sm_rf t d)) rfl trivial ?_
        obtain ⟨r1, hc, h⟩ := sd_q1_go h
        refine sm_W.cal (sm_C_mono D) (y := 196) (as := [.ref 61, .ref 87, .int (0 : Int32)]) (fr' := (95, [some (.ref 61), none, some (.int x2), some (.int x3), some (.int x4), none], [.ref 61], 0, 0)) rfl (T_Mo_areSo (by omega) (by decide) hc ?_)
        show sm_W sm_sh X (sm_C sm_sh X sm_P D) me_265 Q (95, [some (.ref 61), none, some (.int x2), some (.int x3), some (.int x4), none], [.int r1, .ref 61], 0, 0) (I, J, sm_rf t d)
        obtain ⟨r2, hc, h⟩ := sd_q1_go h
        refine sm_W.cal (sm_C_mono D) (y := 202) (as := [.ref 61, .int r1]) (fr' := (96, [some (.ref 61), none, some (.int x2), some (.int x3), some (.int x4), none], [], 0, 0)) rfl (T_Mo_sungBy (by omega) hc ?_)
        show sm_W sm_sh X (sm_C sm_sh X sm_P D) me_265 Q (96, [some (.ref 61), none, some (.int x2), some (.int x3), some (.int x4), none], [.int r2], 0, 0) (I, J, sm_rf t d)
        obtain ⟨r3, hc, h⟩ := sd_q1_go h
        refine sm_W.cal (sm_C_mono D) (y := 161) (as := [.int r2]) (fr' := (97, [some (.ref 61), none, some (.int x2), some (.int x3), some (.int x4), none], [], 0, 0)) rfl (T_Mo_bits (by omega) hc ?_)
        show sm_W sm_sh X (sm_C sm_sh X sm_P D) me_265 Q (97, [some (.ref 61), none, some (.int x2), some (.int x3), some (.int x4), none], [.int r3], 0, 0) (I, J, sm_rf t d)
        cases h
        exact sm_W.ret (sm_C_mono D) rfl hQ
      · obtain ⟨g4, h⟩ := sd_gu_go h
        obtain ⟨g5, h⟩ := sd_gu_go h
        refine sm_W.run (sm_C_mono D) 10 (G := sm_in (15 : Int32) 16 = true ∧ sm_in (15 : Int32) 16 = true ∧ True) (fr' := (97, [some (.ref 61), none, some (.int x2), some (.int x3), some (.int x4), none], [.int ((I 87 15) - (I 86 15))], 0, 0)) (M' := (I, J, sm_rf t d)) rfl ⟨g4, g5, trivial⟩ ?_
        cases h
        exact sm_W.ret (sm_C_mono D) rfl hQ
    · refine sm_W.run (sm_C_mono D) 4 (G := True) (fr' := (73, [some (.ref 61), none, some (.int x2), some (.int x3), some (.int x4), none], [.int (2 : Int32), .ref 87, .ref 61], 0, 0)) (M' := (I, J, sm_rf t d)) rfl trivial ?_
      obtain ⟨r6, hc, h⟩ := sd_q1_go h
      refine sm_W.cal (sm_C_mono D) (y := 196) (as := [.ref 61, .ref 87, .int (2 : Int32)]) (fr' := (74, [some (.ref 61), none, some (.int x2), some (.int x3), some (.int x4), none], [], 0, 0)) rfl (T_Mo_areSo (by omega) (by decide) hc ?_)
      show sm_W sm_sh X (sm_C sm_sh X sm_P D) me_265 Q (74, [some (.ref 61), none, some (.int x2), some (.int x3), some (.int x4), none], [.int r6], 0, 0) (I, J, sm_rf t d)
      obtain ⟨r7, hc, h⟩ := sd_q1_go h
      refine sm_W.cal (sm_C_mono D) (y := 161) (as := [.int r6]) (fr' := (75, [some (.ref 61), none, some (.int x2), some (.int x3), some (.int x4), none], [], 0, 0)) rfl (T_Mo_bits (by omega) hc ?_)
      show sm_W sm_sh X (sm_C sm_sh X sm_P D) me_265 Q (75, [some (.ref 61), none, some (.int x2), some (.int x3), some (.int x4), none], [.int r7], 0, 0) (I, J, sm_rf t d)
      refine sm_W.run (sm_C_mono D) 1 (G := True) (fr' := (97, [some (.ref 61), none, some (.int x2), some (.int x3), some (.int x4), none], [.int r7], 0, 0)) (M' := (I, J, sm_rf t d)) rfl trivial ?_
      cases h
      exact sm_W.ret (sm_C_mono D) rfl hQ
  · refine sm_W.run (sm_C_mono D) 3 (G := True) (fr' := (if decide ((I 61 1) ≤ 0) = true then 60 else 35, [some (.ref 61), none, some (.int x2), some (.int x3), some (.int x4), none], [], 0, 0)) (M' := (I, J, sm_rf t d)) rfl trivial (sm_W.iteD h (fun hc h => ?_) (fun hc h => ?_))
    · exact (G_Mo_wars_60 hD h hQ hk29)
    · refine sm_W.run (sm_C_mono D) 3 (G := True) (fr' := (38, [some (.ref 61), none, some (.int x2), some (.int x3), some (.int x4), none], [.int (I 61 1), .ref 61], 0, 0)) (M' := (I, J, sm_rf t d)) rfl trivial ?_
      obtain ⟨r8, I9, hc, h⟩ := sd_q2_go h
      refine sm_W.cal (sm_C_mono D) (y := 264) (as := [.ref 61, .int (I 61 1)]) (fr' := (39, [some (.ref 61), none, some (.int x2), some (.int x3), some (.int x4), none], [], 0, 0)) rfl (T_Mo_draw (by omega) hc ?_)
      show sm_W sm_sh X (sm_C sm_sh X sm_P D) me_265 Q (39, [some (.ref 61), none, some (.int x2), some (.int x3), some (.int x4), none], [.int r8], 0, 0) (I9, J, sm_rf t d)
      obtain ⟨g10, h⟩ := sd_gu_go h
      refine sm_W.run (sm_C_mono D) 9 (G := sm_in r8 16 = true ∧ True) (fr' := (if decide (¬ (I9 87 (Int32.toNatClampNeg r8)) = 0) = true then 50 else 48, [some (.ref 61), none, some (.int x2), some (.int x3), some (.int x4), some (.int r8)], [.int r8, .ref 87], 0, 0)) (M' := (I9, J, sm_rf t d)) rfl ⟨g10, trivial⟩ (sm_W.iteD h (fun hc h => ?_) (fun hc h => ?_))
      · obtain ⟨g11, h⟩ := sd_gu_go h
        refine sm_W.run (sm_C_mono D) 6 (G := sm_in r8 16 = true ∧ True) (fr' := (if decide (¬ (I9 87 (Int32.toNatClampNeg r8)) = (1 : Int32)) = true then 58 else 56, [some (.ref 61), none, some (.int x2), some (.int x3), some (.int x4), some (.int r8)], [.int r8, .ref 87], 0, 0)) (M' := (I9, J, sm_rf t d)) rfl ⟨g11, trivial⟩ (sm_W.iteD h (fun hc h => ?_) (fun hc h => ?_))
        · obtain ⟨g12, h⟩ := sd_gu_go h
          refine sm_W.runL (sm_C_mono D) 2 (G := sm_in r8 16 = true ∧ True) (e := (sd_up I9 87 (Int32.toNatClampNeg r8) (2 : Int32))) (fr' := fun _ => (60, [some (.ref 61), none, some (.int x2), some (.int x3), some (.int x4), some (.int r8)], [], 0, 0)) (M' := fun I13 => (I13, J, sm_rf t d)) rfl h ⟨g12, trivial⟩ (fun I13 h => ?_)
          exact sm_W.forget (L' := [some (.ref 61), none, some (.int x2), some (.int x3), some (.int x4), none]) ⟨rfl, ⟨rfl, ⟨rfl, ⟨rfl, trivial⟩⟩⟩⟩ (G_Mo_wars_60 hD h hQ hk29)
        · obtain ⟨g14, h⟩ := sd_gu_go h
          refine sm_W.runL (sm_C_mono D) 3 (G := sm_in r8 16 = true ∧ True) (e := (sd_up I9 87 (Int32.toNatClampNeg r8) (0 : Int32))) (fr' := fun _ => (60, [some (.ref 61), none, some (.int x2), some (.int x3), some (.int x4), some (.int r8)], [], 0, 0)) (M' := fun I15 => (I15, J, sm_rf t d)) rfl h ⟨g14, trivial⟩ (fun I15 h => ?_)
          exact sm_W.forget (L' := [some (.ref 61), none, some (.int x2), some (.int x3), some (.int x4), none]) ⟨rfl, ⟨rfl, ⟨rfl, ⟨rfl, trivial⟩⟩⟩⟩ (G_Mo_wars_60 hD h hQ hk29)
      · obtain ⟨g16, h⟩ := sd_gu_go h
        refine sm_W.runL (sm_C_mono D) 3 (G := sm_in r8 16 = true ∧ True) (e := (sd_up I9 87 (Int32.toNatClampNeg r8) (1 : Int32))) (fr' := fun _ => (60, [some (.ref 61), none, some (.int x2), some (.int x3), some (.int x4), some (.int r8)], [], 0, 0)) (M' := fun I17 => (I17, J, sm_rf t d)) rfl h ⟨g16, trivial⟩ (fun I17 h => ?_)
        exact sm_W.forget (L' := [some (.ref 61), none, some (.int x2), some (.int x3), some (.int x4), none]) ⟨rfl, ⟨rfl, ⟨rfl, ⟨rfl, trivial⟩⟩⟩⟩ (G_Mo_wars_60 hD h hQ hk29)
theorem G_Mo_wars_29 {X : Nat × (Nat → Int32)} {t d D : Nat} {Q : sm_Q} {J : sm_MJ} {rz : Int32} {Iz : sm_MI}
    (hD : 7 ≤ D) (hQ : Q (.inl (some (.int rz))) (Iz, J, sm_rf t d))  : ∀ (n : Nat) (x2 : Int32) (x3 : Int32) (x4 : Int32) (I : sm_MI), F_Mo_wars_29 n x2 x3 x4 I = some (rz, Iz) → sm_W sm_sh X (sm_C sm_sh X sm_P D) me_265 Q (29, [some (.ref 61), none, some (.int x2), some (.int x3), some (.int x4), none], [], 0, 0) (I, J, sm_rf t d) := by
  intro n
  induction n with
  | zero => intro x2 x3 x4 I h; cases (show (none : Option (Int32 × sm_MI)) = some (rz, Iz) from h)
  | succ n ih => intro x2 x3 x4 I h; exact G_Mo_wars_29B hD (show F_Mo_wars_29B (F_Mo_wars_29 n) x2 x3 x4 I = some (rz, Iz) from h) hQ  ih
theorem G_Mo_wars {X : Nat × (Nat → Int32)} {t d D : Nat} {Q : sm_Q} {I : sm_MI} {J : sm_MJ} {x1 : Int32} {x2 : Int32} {x3 : Int32} {rz : Int32} {Iz : sm_MI}
    (hD : 7 ≤ D) (h : F_Mo_wars x1 x2 x3 I = some (rz, Iz)) (hQ : Q (.inl (some (.int rz))) (Iz, J, sm_rf t d))  : sm_W sm_sh X (sm_C sm_sh X sm_P D) me_265 Q (0, [some (.ref 61), some (.int x1), some (.int x2), some (.int x3), none, none], [], 0, 0) (I, J, sm_rf t d) := by
  unfold F_Mo_wars at h
  refine sm_W.runL (sm_C_mono D) 3 (G := True) (e := (sd_up I 61 0 (0 : Int32))) (fr' := fun _ => (3, [some (.ref 61), some (.int x1), some (.int x2), some (.int x3), none, none], [], 0, 0)) (M' := fun I1 => (I1, J, sm_rf t d)) rfl h trivial (fun I1 h => ?_)
  refine sm_W.run (sm_C_mono D) 3 (G := True) (fr' := (6, [some (.ref 61), some (.int x1), some (.int x2), some (.int x3), none, none], [.int (2 : Int32), .int x3, .ref 61], 0, 0)) (M' := (I1, J, sm_rf t d)) rfl trivial ?_
  obtain ⟨r2, I3, hc, h⟩ := sd_q2_go h
  refine sm_W.cal (sm_C_mono D) (y := 206) (as := [.ref 61, .int x3, .int (2 : Int32)]) (fr' := (7, [some (.ref 61), some (.int x1), some (.int x2), some (.int x3), none, none], [], 0, 0)) rfl (T_Mo_isWhat (by omega) hc ?_)
  show sm_W sm_sh X (sm_C sm_sh X sm_P D) me_265 Q (7, [some (.ref 61), some (.int x1), some (.int x2), some (.int x3), none, none], [.int r2], 0, 0) (I3, J, sm_rf t d)
  refine sm_W.run (sm_C_mono D) 1 (G := True) (fr' := (if decide (r2 = 0) = true then 16 else 8, [some (.ref 61), some (.int x1), some (.int x2), some (.int x3), none, none], [], 0, 0)) (M' := (I3, J, sm_rf t d)) rfl trivial (sm_W.iteD h (fun hc h => ?_) (fun hc h => ?_))
  · refine sm_W.run (sm_C_mono D) 1 (G := True) (fr' := (17, [some (.ref 61), some (.int x1), some (.int x2), some (.int x3), none, none], [.int (0 : Int32)], 0, 0)) (M' := (I3, J, sm_rf t d)) rfl trivial ?_
    cases h
    exact sm_W.ret (sm_C_mono D) rfl hQ
  · refine sm_W.run (sm_C_mono D) 4 (G := True) (fr' := (12, [some (.ref 61), some (.int x1), some (.int x2), some (.int x3), none, none], [.int (60 : Int32), .int (0 : Int32), .int x2, .ref 61], 0, 0)) (M' := (I3, J, sm_rf t d)) rfl trivial ?_
    obtain ⟨r4, hc, h⟩ := sd_q1_go h
    refine sm_W.cal (sm_C_mono D) (y := 159) (as := [.int x2, .int (0 : Int32), .int (60 : Int32)]) (fr' := (13, [some (.ref 61), some (.int x1), some (.int x2), some (.int x3), none, none], [.ref 61], 0, 0)) rfl (T_Mo_within (by omega) hc ?_)
    show sm_W sm_sh X (sm_C sm_sh X sm_P D) me_265 Q (13, [some (.ref 61), some (.int x1), some (.int x2), some (.int x3), none, none], [.int r4, .ref 61], 0, 0) (I3, J, sm_rf t d)
    refine sm_W.run (sm_C_mono D) 1 (G := True) (fr' := (14, [some (.ref 61), some (.int x1), some (.int x2), some (.int x3), none, none], [.int (2 : Int32), .int r4, .ref 61], 0, 0)) (M' := (I3, J, sm_rf t d)) rfl trivial ?_
    obtain ⟨r5, I6, hc, h⟩ := sd_q2_go h
    refine sm_W.cal (sm_C_mono D) (y := 158) (as := [.ref 61, .int r4, .int (2 : Int32)]) (fr' := (15, [some (.ref 61), some (.int x1), some (.int x2), some (.int x3), none, none], [], 0, 0)) rfl (T_Mo_right (by omega) hc ?_)
    show sm_W sm_sh X (sm_C sm_sh X sm_P D) me_265 Q (15, [some (.ref 61), some (.int x1), some (.int x2), some (.int x3), none, none], [.int r5], 0, 0) (I6, J, sm_rf t d)
    refine sm_W.run (sm_C_mono D) 1 (G := True) (fr' := (if decide (¬ r5 = 0) = true then 18 else 16, [some (.ref 61), some (.int x1), some (.int x2), some (.int x3), none, none], [], 0, 0)) (M' := (I6, J, sm_rf t d)) rfl trivial (sm_W.iteD h (fun hc h => ?_) (fun hc h => ?_))
    · refine sm_W.run (sm_C_mono D) 5 (G := True) (fr' := (23, [some (.ref 61), some (.int x1), some (.int x2), some (.int x3), none, none], [.ref 87, .ref 86, .ref 61], 0, 0)) (M' := (I6, J, sm_rf t d)) rfl trivial ?_
      obtain ⟨I7, hc, h⟩ := sd_q1_go h
      refine sm_W.cal (sm_C_mono D) (y := 160) (as := [.ref 61, .ref 86, .ref 87]) (fr' := (24, [some (.ref 61), some (.int x1), some (.int x2), some (.int x3), none, none], [], 0, 0)) rfl (T_Mo_copies (by omega) (by decide) hc ?_)
      show sm_W sm_sh X (sm_C sm_sh X sm_P D) me_265 Q (24, [some (.ref 61), some (.int x1), some (.int x2), some (.int x3), none, none], [], 0, 0) (I7, J, sm_rf t d)
      refine sm_W.runL (sm_C_mono D) 3 (G := True) (e := (sd_up I7 61 56 x1)) (fr' := fun _ => (27, [some (.ref 61), some (.int x1), some (.int x2), some (.int x3), none, none], [], 0, 0)) (M' := fun I8 => (I8, J, sm_rf t d)) rfl h trivial (fun I8 h => ?_)
      refine sm_W.run (sm_C_mono D) 2 (G := True) (fr' := (29, [some (.ref 61), some (.int x1), some (.int x2), some (.int x3), some (.int (0 : Int32)), none], [], 0, 0)) (M' := (I8, J, sm_rf t d)) rfl trivial ?_
      exact sm_W.forget (L' := [some (.ref 61), none, some (.int x2), some (.int x3), some (.int (0 : Int32)), none]) ⟨rfl, ⟨rfl, ⟨rfl, ⟨rfl, trivial⟩⟩⟩⟩ (G_Mo_wars_29 hD hQ sd_fu _ _ _ _ h)
    · refine sm_W.run (sm_C_mono D) 1 (G := True) (fr' := (17, [some (.ref 61), some (.int x1), some (.int x2), some (.int x3), none, none], [.int (0 : Int32)], 0, 0)) (M' := (I6, J, sm_rf t d)) rfl trivial ?_
      cases h
      exact sm_W.ret (sm_C_mono D) rfl hQ
theorem T_Mo_wars {X : Nat × (Nat → Int32)} {t d D : Nat} {Q : sm_Q} {I : sm_MI} {J : sm_MJ} {x1 : Int32} {x2 : Int32} {x3 : Int32} {rz : Int32} {Iz : sm_MI}
    (hD : 8 ≤ D) (h : F_Mo_wars x1 x2 x3 I = some (rz, Iz)) (hQ : Q (.inl (some (.int rz))) (Iz, J, sm_rf t d)) : sm_C sm_sh X sm_P D 265 [.ref 61, .int x1, .int x2, .int x3] (I, J, sm_rf t d) Q := by
  cases D with
  | zero => omega
  | succ D => exact sm_C.of (me := me_265) (L := [some (.ref 61), some (.int x1), some (.int x2), some (.int x3), none, none]) rfl rfl rfl (sm_W.forget (L' := [some (.ref 61), some (.int x1), some (.int x2), some (.int x3), none, none]) ⟨rfl, ⟨rfl, ⟨rfl, ⟨rfl, trivial⟩⟩⟩⟩ (G_Mo_wars (by omega) h hQ))
-- 266 Mo_image
noncomputable def F_Mo_image (I : sm_MI) : Option (sm_MI) :=
  sd_lt (sd_up I 61 0 (0 : Int32)) fun I1 =>
  sd_lt (sd_up I1 61 57 (1 : Int32)) fun I2 =>
  sd_lt (sd_up I2 61 58 (I2 61 50)) fun I3 =>
  sd_lt (sd_up I3 61 59 (I3 61 53)) fun I4 =>
  sd_q1 (F_Mo_copies 86 93 I4) fun I5 =>
  sd_q1 (F_Mo_copies 88 94 I5) fun I6 =>
  sd_q1 (F_Mo_copies 91 95 I6) fun I7 =>
  some (I7)
theorem G_Mo_image {X : Nat × (Nat → Int32)} {t d D : Nat} {Q : sm_Q} {I : sm_MI} {J : sm_MJ} {Iz : sm_MI}
    (hD : 1 ≤ D) (h : F_Mo_image I = some (Iz)) (hQ : Q (.inl none) (Iz, J, sm_rf t d))  : sm_W sm_sh X (sm_C sm_sh X sm_P D) me_266 Q (0, [some (.ref 61)], [], 0, 0) (I, J, sm_rf t d) := by
  unfold F_Mo_image at h
  refine sm_W.runL (sm_C_mono D) 3 (G := True) (e := (sd_up I 61 0 (0 : Int32))) (fr' := fun _ => (3, [some (.ref 61)], [], 0, 0)) (M' := fun I1 => (I1, J, sm_rf t d)) rfl h trivial (fun I1 h => ?_)
  refine sm_W.runL (sm_C_mono D) 3 (G := True) (e := (sd_up I1 61 57 (1 : Int32))) (fr' := fun _ => (6, [some (.ref 61)], [], 0, 0)) (M' := fun I2 => (I2, J, sm_rf t d)) rfl h trivial (fun I2 h => ?_)
  refine sm_W.runL (sm_C_mono D) 4 (G := True) (e := (sd_up I2 61 58 (I2 61 50))) (fr' := fun _ => (10, [some (.ref 61)], [], 0, 0)) (M' := fun I3 => (I3, J, sm_rf t d)) rfl h trivial (fun I3 h => ?_)
  refine sm_W.runL (sm_C_mono D) 4 (G := True) (e := (sd_up I3 61 59 (I3 61 53))) (fr' := fun _ => (14, [some (.ref 61)], [], 0, 0)) (M' := fun I4 => (I4, J, sm_rf t d)) rfl h trivial (fun I4 h => ?_)
  refine sm_W.run (sm_C_mono D) 5 (G := True) (fr' := (19, [some (.ref 61)], [.ref 93, .ref 86, .ref 61], 0, 0)) (M' := (I4, J, sm_rf t d)) rfl trivial ?_
  obtain ⟨I5, hc, h⟩ := sd_q1_go h
  refine sm_W.cal (sm_C_mono D) (y := 160) (as := [.ref 61, .ref 86, .ref 93]) (fr' := (20, [some (.ref 61)], [], 0, 0)) rfl (T_Mo_copies (by omega) (by decide) hc ?_)
  show sm_W sm_sh X (sm_C sm_sh X sm_P D) me_266 Q (20, [some (.ref 61)], [], 0, 0) (I5, J, sm_rf t d)
  refine sm_W.run (sm_C_mono D) 5 (G := True) (fr' := (25, [some (.ref 61)], [.ref 94, .ref 88, .ref 61], 0, 0)) (M' := (I5, J, sm_rf t d)) rfl trivial ?_
  obtain ⟨I6, hc, h⟩ := sd_q1_go h
  refine sm_W.cal (sm_C_mono D) (y := 160) (as := [.ref 61, .ref 88, .ref 94]) (fr' := (26, [some (.ref 61)], [], 0, 0)) rfl (T_Mo_copies (by omega) (by decide) hc ?_)
  show sm_W sm_sh X (sm_C sm_sh X sm_P D) me_266 Q (26, [some (.ref 61)], [], 0, 0) (I6, J, sm_rf t d)
  refine sm_W.run (sm_C_mono D) 5 (G := True) (fr' := (31, [some (.ref 61)], [.ref 95, .ref 91, .ref 61], 0, 0)) (M' := (I6, J, sm_rf t d)) rfl trivial ?_
  obtain ⟨I7, hc, h⟩ := sd_q1_go h
  refine sm_W.cal (sm_C_mono D) (y := 160) (as := [.ref 61, .ref 91, .ref 95]) (fr' := (32, [some (.ref 61)], [], 0, 0)) rfl (T_Mo_copies (by omega) (by decide) hc ?_)
  show sm_W sm_sh X (sm_C sm_sh X sm_P D) me_266 Q (32, [some (.ref 61)], [], 0, 0) (I7, J, sm_rf t d)
  cases h
  exact sm_W.ret (sm_C_mono D) rfl hQ
theorem T_Mo_image {X : Nat × (Nat → Int32)} {t d D : Nat} {Q : sm_Q} {I : sm_MI} {J : sm_MJ} {Iz : sm_MI}
    (hD : 2 ≤ D) (h : F_Mo_image I = some (Iz)) (hQ : Q (.inl none) (Iz, J, sm_rf t d)) : sm_C sm_sh X sm_P D 266 [.ref 61] (I, J, sm_rf t d) Q := by
  cases D with
  | zero => omega
  | succ D => exact sm_C.of (me := me_266) (L := [some (.ref 61)]) rfl rfl rfl (sm_W.forget (L' := [some (.ref 61)]) ⟨rfl, trivial⟩ (G_Mo_image (by omega) h hQ))
-- 267 Mo_restore
noncomputable def F_Mo_restore (I : sm_MI) : Option (Int32 × sm_MI) :=
  sd_lt (sd_up I 61 0 (0 : Int32)) fun I1 =>
  if ¬ (I1 61 57) = 0 then
    sd_lt (sd_up I1 61 50 (I1 61 58)) fun I2 =>
    sd_lt (sd_up I2 61 53 (I2 61 59)) fun I3 =>
    sd_q1 (F_Mo_copies 93 86 I3) fun I4 =>
    sd_q1 (F_Mo_copies 94 88 I4) fun I5 =>
    sd_q1 (F_Mo_copies 95 91 I5) fun I6 =>
    some ((1 : Int32), I6)
  else
    some ((0 : Int32), I1)
theorem G_Mo_restore {X : Nat × (Nat → Int32)} {t d D : Nat} {Q : sm_Q} {I : sm_MI} {J : sm_MJ} {rz : Int32} {Iz : sm_MI}
    (hD : 1 ≤ D) (h : F_Mo_restore I = some (rz, Iz)) (hQ : Q (.inl (some (.int rz))) (Iz, J, sm_rf t d))  : sm_W sm_sh X (sm_C sm_sh X sm_P D) me_267 Q (0, [some (.ref 61)], [], 0, 0) (I, J, sm_rf t d) := by
  unfold F_Mo_restore at h
  refine sm_W.runL (sm_C_mono D) 3 (G := True) (e := (sd_up I 61 0 (0 : Int32))) (fr' := fun _ => (3, [some (.ref 61)], [], 0, 0)) (M' := fun I1 => (I1, J, sm_rf t d)) rfl h trivial (fun I1 h => ?_)
  refine sm_W.run (sm_C_mono D) 3 (G := True) (fr' := (if decide (¬ (I1 61 57) = 0) = true then 8 else 6, [some (.ref 61)], [], 0, 0)) (M' := (I1, J, sm_rf t d)) rfl trivial (sm_W.iteD h (fun hc h => ?_) (fun hc h => ?_))
  · refine sm_W.runL (sm_C_mono D) 4 (G := True) (e := (sd_up I1 61 50 (I1 61 58))) (fr' := fun _ => (12, [some (.ref 61)], [], 0, 0)) (M' := fun I2 => (I2, J, sm_rf t d)) rfl h trivial (fun I2 h => ?_)
    refine sm_W.runL (sm_C_mono D) 4 (G := True) (e := (sd_up I2 61 53 (I2 61 59))) (fr' := fun _ => (16, [some (.ref 61)], [], 0, 0)) (M' := fun I3 => (I3, J, sm_rf t d)) rfl h trivial (fun I3 h => ?_)
    refine sm_W.run (sm_C_mono D) 5 (G := True) (fr' := (21, [some (.ref 61)], [.ref 86, .ref 93, .ref 61], 0, 0)) (M' := (I3, J, sm_rf t d)) rfl trivial ?_
    obtain ⟨I4, hc, h⟩ := sd_q1_go h
    refine sm_W.cal (sm_C_mono D) (y := 160) (as := [.ref 61, .ref 93, .ref 86]) (fr' := (22, [some (.ref 61)], [], 0, 0)) rfl (T_Mo_copies (by omega) (by decide) hc ?_)
    show sm_W sm_sh X (sm_C sm_sh X sm_P D) me_267 Q (22, [some (.ref 61)], [], 0, 0) (I4, J, sm_rf t d)
    refine sm_W.run (sm_C_mono D) 5 (G := True) (fr' := (27, [some (.ref 61)], [.ref 88, .ref 94, .ref 61], 0, 0)) (M' := (I4, J, sm_rf t d)) rfl trivial ?_
    obtain ⟨I5, hc, h⟩ := sd_q1_go h
    refine sm_W.cal (sm_C_mono D) (y := 160) (as := [.ref 61, .ref 94, .ref 88]) (fr' := (28, [some (.ref 61)], [], 0, 0)) rfl (T_Mo_copies (by omega) (by decide) hc ?_)
    show sm_W sm_sh X (sm_C sm_sh X sm_P D) me_267 Q (28, [some (.ref 61)], [], 0, 0) (I5, J, sm_rf t d)
    refine sm_W.run (sm_C_mono D) 5 (G := True) (fr' := (33, [some (.ref 61)], [.ref 91, .ref 95, .ref 61], 0, 0)) (M' := (I5, J, sm_rf t d)) rfl trivial ?_
    obtain ⟨I6, hc, h⟩ := sd_q1_go h
    refine sm_W.cal (sm_C_mono D) (y := 160) (as := [.ref 61, .ref 95, .ref 91]) (fr' := (34, [some (.ref 61)], [], 0, 0)) rfl (T_Mo_copies (by omega) (by decide) hc ?_)
    show sm_W sm_sh X (sm_C sm_sh X sm_P D) me_267 Q (34, [some (.ref 61)], [], 0, 0) (I6, J, sm_rf t d)
    refine sm_W.run (sm_C_mono D) 1 (G := True) (fr' := (35, [some (.ref 61)], [.int (1 : Int32)], 0, 0)) (M' := (I6, J, sm_rf t d)) rfl trivial ?_
    cases h
    exact sm_W.ret (sm_C_mono D) rfl hQ
  · refine sm_W.run (sm_C_mono D) 1 (G := True) (fr' := (7, [some (.ref 61)], [.int (0 : Int32)], 0, 0)) (M' := (I1, J, sm_rf t d)) rfl trivial ?_
    cases h
    exact sm_W.ret (sm_C_mono D) rfl hQ
theorem T_Mo_restore {X : Nat × (Nat → Int32)} {t d D : Nat} {Q : sm_Q} {I : sm_MI} {J : sm_MJ} {rz : Int32} {Iz : sm_MI}
    (hD : 2 ≤ D) (h : F_Mo_restore I = some (rz, Iz)) (hQ : Q (.inl (some (.int rz))) (Iz, J, sm_rf t d)) : sm_C sm_sh X sm_P D 267 [.ref 61] (I, J, sm_rf t d) Q := by
  cases D with
  | zero => omega
  | succ D => exact sm_C.of (me := me_267) (L := [some (.ref 61)]) rfl rfl rfl (sm_W.forget (L' := [some (.ref 61)]) ⟨rfl, trivial⟩ (G_Mo_restore (by omega) h hQ))
-- 272 Law_count
noncomputable def F_Law_count (t : Nat) (x1 : Int32) (I : sm_MI) (J : sm_MJ) : Option (Int32 × sm_MJ) :=
  sd_t1 (F_VM_count t x1 I) (fun r1 =>
    sd_gu (sm_in (0 : Int32) 1 = true) <|
    sd_lt (sd_upJ J 96 0 (Int32.toInt64 r1)) fun J3 =>
    some ((0 : Int32), J3))
    (fun r1 => if r1 = 1 then
    some ((1 : Int32), J)
  else none)
theorem G_Law_count {X : Nat × (Nat → Int32)} {t d D : Nat} {Q : sm_Q} {I : sm_MI} {J : sm_MJ} {x1 : Int32} {rz : Int32} {Jz : sm_MJ}
    (hD : 4 ≤ D) (ht : t = 21 ∨ t = 41) (h : F_Law_count t x1 I J = some (rz, Jz)) (hQ : Q (.inl (some (.int rz))) (I, Jz, sm_rf t d))  : sm_W sm_sh X (sm_C sm_sh X sm_P D) me_272 Q (0, [some (.ref 0), some (.int x1), some (.ref 96), none], [], 0, 0) (I, J, sm_rf t d) := by
  unfold F_Law_count at h
  rcases ht with rfl | rfl
  · skip
    refine sm_W.run (sm_C_mono D) 4 (G := True) (fr' := (4, [some (.ref 0), some (.int x1), some (.ref 96), none], [.int x1, .ref 0, .int (0 : Int32), .ref 96], 0, 0)) (M' := (I, J, sm_rf 21 d)) rfl trivial ?_
    rcases sd_t1_go h with ⟨r1, hc, h⟩ | ⟨r1, hc, h⟩
    · refine sm_W.cal (sm_C_mono D) (y := 106) (as := [.ref 0, .int x1]) (fr' := (5, [some (.ref 0), some (.int x1), some (.ref 96), none], [.int (0 : Int32), .ref 96], 1, 6)) rfl (T_VM_count (by omega) (by decide) hc (fun _ e => ?_) (fun _ e => by cases e))
      cases e
      show sm_W sm_sh X (sm_C sm_sh X sm_P D) me_272 Q (5, [some (.ref 0), some (.int x1), some (.ref 96), none], [.int r1, .int (0 : Int32), .ref 96], 1, 6) (I, J, sm_rf 21 d)
      obtain ⟨g2, h⟩ := sd_gu_go h
      refine sm_W.runL (sm_C_mono D) 2 (G := sm_in (0 : Int32) 1 = true ∧ True) (e := (sd_upJ J 96 0 (Int32.toInt64 r1))) (fr' := fun _ => (7, [some (.ref 0), some (.int x1), some (.ref 96), none], [], 1, 6)) (M' := fun J3 => (I, J3, sm_rf 21 d)) rfl h ⟨g2, trivial⟩ (fun J3 h => ?_)
      refine sm_W.run (sm_C_mono D) 2 (G := True) (fr' := (12, [some (.ref 0), some (.int x1), some (.ref 96), none], [.int (0 : Int32)], 1, 6)) (M' := (I, J3, sm_rf 21 d)) rfl trivial ?_
      cases h
      exact sm_W.ret (sm_C_mono D) rfl hQ
    · refine sm_W.cal (sm_C_mono D) (y := 106) (as := [.ref 0, .int x1]) (fr' := (5, [some (.ref 0), some (.int x1), some (.ref 96), none], [.int (0 : Int32), .ref 96], 1, 6)) rfl (T_VM_count (by omega) (by decide) hc (fun _ e => by cases e) (fun _ e => ?_))
      cases e
      rcases sd_if_go h with ⟨he, h⟩ | ⟨he, h⟩
      · subst he
        show sm_W sm_sh X (sm_C sm_sh X sm_P D) me_272 Q (9, [some (.ref 0), some (.int x1), some (.ref 96), none], [], 1, 6) (I, J, sm_rf 21 d)
        refine sm_W.run (sm_C_mono D) 1 (G := True) (fr' := (10, [some (.ref 0), some (.int x1), some (.ref 96), none], [.int (1 : Int32)], 1, 6)) (M' := (I, J, sm_rf 21 d)) rfl trivial ?_
        cases h
        exact sm_W.ret (sm_C_mono D) rfl hQ
      cases h
  · skip
    refine sm_W.run (sm_C_mono D) 4 (G := True) (fr' := (4, [some (.ref 0), some (.int x1), some (.ref 96), none], [.int x1, .ref 0, .int (0 : Int32), .ref 96], 0, 0)) (M' := (I, J, sm_rf 41 d)) rfl trivial ?_
    rcases sd_t1_go h with ⟨r1, hc, h⟩ | ⟨r1, hc, h⟩
    · refine sm_W.cal (sm_C_mono D) (y := 106) (as := [.ref 0, .int x1]) (fr' := (5, [some (.ref 0), some (.int x1), some (.ref 96), none], [.int (0 : Int32), .ref 96], 1, 6)) rfl (T_VM_count (by omega) (by decide) hc (fun _ e => ?_) (fun _ e => by cases e))
      cases e
      show sm_W sm_sh X (sm_C sm_sh X sm_P D) me_272 Q (5, [some (.ref 0), some (.int x1), some (.ref 96), none], [.int r1, .int (0 : Int32), .ref 96], 1, 6) (I, J, sm_rf 41 d)
      obtain ⟨g2, h⟩ := sd_gu_go h
      refine sm_W.runL (sm_C_mono D) 2 (G := sm_in (0 : Int32) 1 = true ∧ True) (e := (sd_upJ J 96 0 (Int32.toInt64 r1))) (fr' := fun _ => (7, [some (.ref 0), some (.int x1), some (.ref 96), none], [], 1, 6)) (M' := fun J3 => (I, J3, sm_rf 41 d)) rfl h ⟨g2, trivial⟩ (fun J3 h => ?_)
      refine sm_W.run (sm_C_mono D) 2 (G := True) (fr' := (12, [some (.ref 0), some (.int x1), some (.ref 96), none], [.int (0 : Int32)], 1, 6)) (M' := (I, J3, sm_rf 41 d)) rfl trivial ?_
      cases h
      exact sm_W.ret (sm_C_mono D) rfl hQ
    · refine sm_W.cal (sm_C_mono D) (y := 106) (as := [.ref 0, .int x1]) (fr' := (5, [some (.ref 0), some (.int x1), some (.ref 96), none], [.int (0 : Int32), .ref 96], 1, 6)) rfl (T_VM_count (by omega) (by decide) hc (fun _ e => by cases e) (fun _ e => ?_))
      cases e
      rcases sd_if_go h with ⟨he, h⟩ | ⟨he, h⟩
      · subst he
        show sm_W sm_sh X (sm_C sm_sh X sm_P D) me_272 Q (9, [some (.ref 0), some (.int x1), some (.ref 96), none], [], 1, 6) (I, J, sm_rf 41 d)
        refine sm_W.run (sm_C_mono D) 1 (G := True) (fr' := (10, [some (.ref 0), some (.int x1), some (.ref 96), none], [.int (1 : Int32)], 1, 6)) (M' := (I, J, sm_rf 41 d)) rfl trivial ?_
        cases h
        exact sm_W.ret (sm_C_mono D) rfl hQ
      cases h
theorem T_Law_count {X : Nat × (Nat → Int32)} {t d D : Nat} {Q : sm_Q} {I : sm_MI} {J : sm_MJ} {x1 : Int32} {rz : Int32} {Jz : sm_MJ}
    (hD : 5 ≤ D) (ht : t = 21 ∨ t = 41) (h : F_Law_count t x1 I J = some (rz, Jz)) (hQ : Q (.inl (some (.int rz))) (I, Jz, sm_rf t d)) : sm_C sm_sh X sm_P D 272 [.ref 0, .int x1, .ref 96] (I, J, sm_rf t d) Q := by
  cases D with
  | zero => omega
  | succ D => exact sm_C.of (me := me_272) (L := [some (.ref 0), some (.int x1), some (.ref 96), none]) rfl rfl rfl (sm_W.forget (L' := [some (.ref 0), some (.int x1), some (.ref 96), none]) ⟨rfl, ⟨rfl, ⟨rfl, trivial⟩⟩⟩ (G_Law_count (by omega) ht h hQ))
-- 273 Law_singer
noncomputable def F_Law_singer (t : Nat) (x1 : Int32) (x2 : Int32) (I : sm_MI) (J : sm_MJ) : Option (Int32 × sm_MJ) :=
  sd_t1 (F_VM_singer t x1 x2 I) (fun r1 =>
    sd_gu (sm_in (0 : Int32) 1 = true) <|
    sd_lt (sd_upJ J 96 0 (Int32.toInt64 r1)) fun J3 =>
    some ((0 : Int32), J3))
    (fun r1 => if r1 = 1 then
    some ((1 : Int32), J)
  else none)
theorem G_Law_singer {X : Nat × (Nat → Int32)} {t d D : Nat} {Q : sm_Q} {I : sm_MI} {J : sm_MJ} {x1 : Int32} {x2 : Int32} {rz : Int32} {Jz : sm_MJ}
    (hD : 2 ≤ D) (ht : t = 21 ∨ t = 41) (h : F_Law_singer t x1 x2 I J = some (rz, Jz)) (hQ : Q (.inl (some (.int rz))) (I, Jz, sm_rf t d))  : sm_W sm_sh X (sm_C sm_sh X sm_P D) me_273 Q (0, [some (.ref 0), some (.int x1), some (.int x2), some (.ref 96), none], [], 0, 0) (I, J, sm_rf t d) := by
  unfold F_Law_singer at h
  rcases ht with rfl | rfl
  · skip
    refine sm_W.run (sm_C_mono D) 5 (G := True) (fr' := (5, [some (.ref 0), some (.int x1), some (.int x2), some (.ref 96), none], [.int x2, .int x1, .ref 0, .int (0 : Int32), .ref 96], 0, 0)) (M' := (I, J, sm_rf 21 d)) rfl trivial ?_
    rcases sd_t1_go h with ⟨r1, hc, h⟩ | ⟨r1, hc, h⟩
    · refine sm_W.cal (sm_C_mono D) (y := 107) (as := [.ref 0, .int x1, .int x2]) (fr' := (6, [some (.ref 0), some (.int x1), some (.int x2), some (.ref 96), none], [.int (0 : Int32), .ref 96], 2, 12)) rfl (T_VM_singer (by omega) (by decide) hc (fun _ e => ?_) (fun _ e => by cases e))
      cases e
      show sm_W sm_sh X (sm_C sm_sh X sm_P D) me_273 Q (6, [some (.ref 0), some (.int x1), some (.int x2), some (.ref 96), none], [.int r1, .int (0 : Int32), .ref 96], 2, 12) (I, J, sm_rf 21 d)
      obtain ⟨g2, h⟩ := sd_gu_go h
      refine sm_W.runL (sm_C_mono D) 2 (G := sm_in (0 : Int32) 1 = true ∧ True) (e := (sd_upJ J 96 0 (Int32.toInt64 r1))) (fr' := fun _ => (8, [some (.ref 0), some (.int x1), some (.int x2), some (.ref 96), none], [], 2, 12)) (M' := fun J3 => (I, J3, sm_rf 21 d)) rfl h ⟨g2, trivial⟩ (fun J3 h => ?_)
      refine sm_W.run (sm_C_mono D) 2 (G := True) (fr' := (13, [some (.ref 0), some (.int x1), some (.int x2), some (.ref 96), none], [.int (0 : Int32)], 2, 12)) (M' := (I, J3, sm_rf 21 d)) rfl trivial ?_
      cases h
      exact sm_W.ret (sm_C_mono D) rfl hQ
    · refine sm_W.cal (sm_C_mono D) (y := 107) (as := [.ref 0, .int x1, .int x2]) (fr' := (6, [some (.ref 0), some (.int x1), some (.int x2), some (.ref 96), none], [.int (0 : Int32), .ref 96], 2, 12)) rfl (T_VM_singer (by omega) (by decide) hc (fun _ e => by cases e) (fun _ e => ?_))
      cases e
      rcases sd_if_go h with ⟨he, h⟩ | ⟨he, h⟩
      · subst he
        show sm_W sm_sh X (sm_C sm_sh X sm_P D) me_273 Q (10, [some (.ref 0), some (.int x1), some (.int x2), some (.ref 96), none], [], 2, 12) (I, J, sm_rf 21 d)
        refine sm_W.run (sm_C_mono D) 1 (G := True) (fr' := (11, [some (.ref 0), some (.int x1), some (.int x2), some (.ref 96), none], [.int (1 : Int32)], 2, 12)) (M' := (I, J, sm_rf 21 d)) rfl trivial ?_
        cases h
        exact sm_W.ret (sm_C_mono D) rfl hQ
      cases h
  · skip
    refine sm_W.run (sm_C_mono D) 5 (G := True) (fr' := (5, [some (.ref 0), some (.int x1), some (.int x2), some (.ref 96), none], [.int x2, .int x1, .ref 0, .int (0 : Int32), .ref 96], 0, 0)) (M' := (I, J, sm_rf 41 d)) rfl trivial ?_
    rcases sd_t1_go h with ⟨r1, hc, h⟩ | ⟨r1, hc, h⟩
    · refine sm_W.cal (sm_C_mono D) (y := 107) (as := [.ref 0, .int x1, .int x2]) (fr' := (6, [some (.ref 0), some (.int x1), some (.int x2), some (.ref 96), none], [.int (0 : Int32), .ref 96], 2, 12)) rfl (T_VM_singer (by omega) (by decide) hc (fun _ e => ?_) (fun _ e => by cases e))
      cases e
      show sm_W sm_sh X (sm_C sm_sh X sm_P D) me_273 Q (6, [some (.ref 0), some (.int x1), some (.int x2), some (.ref 96), none], [.int r1, .int (0 : Int32), .ref 96], 2, 12) (I, J, sm_rf 41 d)
      obtain ⟨g2, h⟩ := sd_gu_go h
      refine sm_W.runL (sm_C_mono D) 2 (G := sm_in (0 : Int32) 1 = true ∧ True) (e := (sd_upJ J 96 0 (Int32.toInt64 r1))) (fr' := fun _ => (8, [some (.ref 0), some (.int x1), some (.int x2), some (.ref 96), none], [], 2, 12)) (M' := fun J3 => (I, J3, sm_rf 41 d)) rfl h ⟨g2, trivial⟩ (fun J3 h => ?_)
      refine sm_W.run (sm_C_mono D) 2 (G := True) (fr' := (13, [some (.ref 0), some (.int x1), some (.int x2), some (.ref 96), none], [.int (0 : Int32)], 2, 12)) (M' := (I, J3, sm_rf 41 d)) rfl trivial ?_
      cases h
      exact sm_W.ret (sm_C_mono D) rfl hQ
    · refine sm_W.cal (sm_C_mono D) (y := 107) (as := [.ref 0, .int x1, .int x2]) (fr' := (6, [some (.ref 0), some (.int x1), some (.int x2), some (.ref 96), none], [.int (0 : Int32), .ref 96], 2, 12)) rfl (T_VM_singer (by omega) (by decide) hc (fun _ e => by cases e) (fun _ e => ?_))
      cases e
      rcases sd_if_go h with ⟨he, h⟩ | ⟨he, h⟩
      · subst he
        show sm_W sm_sh X (sm_C sm_sh X sm_P D) me_273 Q (10, [some (.ref 0), some (.int x1), some (.int x2), some (.ref 96), none], [], 2, 12) (I, J, sm_rf 41 d)
        refine sm_W.run (sm_C_mono D) 1 (G := True) (fr' := (11, [some (.ref 0), some (.int x1), some (.int x2), some (.ref 96), none], [.int (1 : Int32)], 2, 12)) (M' := (I, J, sm_rf 41 d)) rfl trivial ?_
        cases h
        exact sm_W.ret (sm_C_mono D) rfl hQ
      cases h
theorem T_Law_singer {X : Nat × (Nat → Int32)} {t d D : Nat} {Q : sm_Q} {I : sm_MI} {J : sm_MJ} {x1 : Int32} {x2 : Int32} {rz : Int32} {Jz : sm_MJ}
    (hD : 3 ≤ D) (ht : t = 21 ∨ t = 41) (h : F_Law_singer t x1 x2 I J = some (rz, Jz)) (hQ : Q (.inl (some (.int rz))) (I, Jz, sm_rf t d)) : sm_C sm_sh X sm_P D 273 [.ref 0, .int x1, .int x2, .ref 96] (I, J, sm_rf t d) Q := by
  cases D with
  | zero => omega
  | succ D => exact sm_C.of (me := me_273) (L := [some (.ref 0), some (.int x1), some (.int x2), some (.ref 96), none]) rfl rfl rfl (sm_W.forget (L' := [some (.ref 0), some (.int x1), some (.int x2), some (.ref 96), none]) ⟨rfl, ⟨rfl, ⟨rfl, ⟨rfl, trivial⟩⟩⟩⟩ (G_Law_singer (by omega) ht h hQ))
-- 274 Law_row
noncomputable def F_Law_row (t : Nat) (x1 : Int32) (x2 : Int32) (x3 : Int32) (I : sm_MI) (J : sm_MJ) : Option (Int32 × sm_MJ) :=
  sd_t1 (F_VM_row t x1 x2 x3 I) (fun r1 =>
    sd_gu (sm_in (0 : Int32) 1 = true) <|
    sd_lt (sd_upJ J 96 0 (Int32.toInt64 r1)) fun J3 =>
    some ((0 : Int32), J3))
    (fun r1 => if r1 = 1 then
    some ((1 : Int32), J)
  else none)
theorem G_Law_row {X : Nat × (Nat → Int32)} {t d D : Nat} {Q : sm_Q} {I : sm_MI} {J : sm_MJ} {x1 : Int32} {x2 : Int32} {x3 : Int32} {rz : Int32} {Jz : sm_MJ}
    (hD : 3 ≤ D) (ht : t = 21 ∨ t = 41) (h : F_Law_row t x1 x2 x3 I J = some (rz, Jz)) (hQ : Q (.inl (some (.int rz))) (I, Jz, sm_rf t d))  : sm_W sm_sh X (sm_C sm_sh X sm_P D) me_274 Q (0, [some (.ref 0), some (.int x1), some (.int x2), some (.int x3), some (.ref 96), none], [], 0, 0) (I, J, sm_rf t d) := by
  unfold F_Law_row at h
  rcases ht with rfl | rfl
  · skip
    refine sm_W.run (sm_C_mono D) 6 (G := True) (fr' := (6, [some (.ref 0), some (.int x1), some (.int x2), some (.int x3), some (.ref 96), none], [.int x3, .int x2, .int x1, .ref 0, .int (0 : Int32), .ref 96], 0, 0)) (M' := (I, J, sm_rf 21 d)) rfl trivial ?_
    rcases sd_t1_go h with ⟨r1, hc, h⟩ | ⟨r1, hc, h⟩
    · refine sm_W.cal (sm_C_mono D) (y := 108) (as := [.ref 0, .int x1, .int x2, .int x3]) (fr' := (7, [some (.ref 0), some (.int x1), some (.int x2), some (.int x3), some (.ref 96), none], [.int (0 : Int32), .ref 96], 3, 18)) rfl (T_VM_row (by omega) (by decide) hc (fun _ e => ?_) (fun _ e => by cases e))
      cases e
      show sm_W sm_sh X (sm_C sm_sh X sm_P D) me_274 Q (7, [some (.ref 0), some (.int x1), some (.int x2), some (.int x3), some (.ref 96), none], [.int r1, .int (0 : Int32), .ref 96], 3, 18) (I, J, sm_rf 21 d)
      obtain ⟨g2, h⟩ := sd_gu_go h
      refine sm_W.runL (sm_C_mono D) 2 (G := sm_in (0 : Int32) 1 = true ∧ True) (e := (sd_upJ J 96 0 (Int32.toInt64 r1))) (fr' := fun _ => (9, [some (.ref 0), some (.int x1), some (.int x2), some (.int x3), some (.ref 96), none], [], 3, 18)) (M' := fun J3 => (I, J3, sm_rf 21 d)) rfl h ⟨g2, trivial⟩ (fun J3 h => ?_)
      refine sm_W.run (sm_C_mono D) 2 (G := True) (fr' := (14, [some (.ref 0), some (.int x1), some (.int x2), some (.int x3), some (.ref 96), none], [.int (0 : Int32)], 3, 18)) (M' := (I, J3, sm_rf 21 d)) rfl trivial ?_
      cases h
      exact sm_W.ret (sm_C_mono D) rfl hQ
    · refine sm_W.cal (sm_C_mono D) (y := 108) (as := [.ref 0, .int x1, .int x2, .int x3]) (fr' := (7, [some (.ref 0), some (.int x1), some (.int x2), some (.int x3), some (.ref 96), none], [.int (0 : Int32), .ref 96], 3, 18)) rfl (T_VM_row (by omega) (by decide) hc (fun _ e => by cases e) (fun _ e => ?_))
      cases e
      rcases sd_if_go h with ⟨he, h⟩ | ⟨he, h⟩
      · subst he
        show sm_W sm_sh X (sm_C sm_sh X sm_P D) me_274 Q (11, [some (.ref 0), some (.int x1), some (.int x2), some (.int x3), some (.ref 96), none], [], 3, 18) (I, J, sm_rf 21 d)
        refine sm_W.run (sm_C_mono D) 1 (G := True) (fr' := (12, [some (.ref 0), some (.int x1), some (.int x2), some (.int x3), some (.ref 96), none], [.int (1 : Int32)], 3, 18)) (M' := (I, J, sm_rf 21 d)) rfl trivial ?_
        cases h
        exact sm_W.ret (sm_C_mono D) rfl hQ
      cases h
  · skip
    refine sm_W.run (sm_C_mono D) 6 (G := True) (fr' := (6, [some (.ref 0), some (.int x1), some (.int x2), some (.int x3), some (.ref 96), none], [.int x3, .int x2, .int x1, .ref 0, .int (0 : Int32), .ref 96], 0, 0)) (M' := (I, J, sm_rf 41 d)) rfl trivial ?_
    rcases sd_t1_go h with ⟨r1, hc, h⟩ | ⟨r1, hc, h⟩
    · refine sm_W.cal (sm_C_mono D) (y := 108) (as := [.ref 0, .int x1, .int x2, .int x3]) (fr' := (7, [some (.ref 0), some (.int x1), some (.int x2), some (.int x3), some (.ref 96), none], [.int (0 : Int32), .ref 96], 3, 18)) rfl (T_VM_row (by omega) (by decide) hc (fun _ e => ?_) (fun _ e => by cases e))
      cases e
      show sm_W sm_sh X (sm_C sm_sh X sm_P D) me_274 Q (7, [some (.ref 0), some (.int x1), some (.int x2), some (.int x3), some (.ref 96), none], [.int r1, .int (0 : Int32), .ref 96], 3, 18) (I, J, sm_rf 41 d)
      obtain ⟨g2, h⟩ := sd_gu_go h
      refine sm_W.runL (sm_C_mono D) 2 (G := sm_in (0 : Int32) 1 = true ∧ True) (e := (sd_upJ J 96 0 (Int32.toInt64 r1))) (fr' := fun _ => (9, [some (.ref 0), some (.int x1), some (.int x2), some (.int x3), some (.ref 96), none], [], 3, 18)) (M' := fun J3 => (I, J3, sm_rf 41 d)) rfl h ⟨g2, trivial⟩ (fun J3 h => ?_)
      refine sm_W.run (sm_C_mono D) 2 (G := True) (fr' := (14, [some (.ref 0), some (.int x1), some (.int x2), some (.int x3), some (.ref 96), none], [.int (0 : Int32)], 3, 18)) (M' := (I, J3, sm_rf 41 d)) rfl trivial ?_
      cases h
      exact sm_W.ret (sm_C_mono D) rfl hQ
    · refine sm_W.cal (sm_C_mono D) (y := 108) (as := [.ref 0, .int x1, .int x2, .int x3]) (fr' := (7, [some (.ref 0), some (.int x1), some (.int x2), some (.int x3), some (.ref 96), none], [.int (0 : Int32), .ref 96], 3, 18)) rfl (T_VM_row (by omega) (by decide) hc (fun _ e => by cases e) (fun _ e => ?_))
      cases e
      rcases sd_if_go h with ⟨he, h⟩ | ⟨he, h⟩
      · subst he
        show sm_W sm_sh X (sm_C sm_sh X sm_P D) me_274 Q (11, [some (.ref 0), some (.int x1), some (.int x2), some (.int x3), some (.ref 96), none], [], 3, 18) (I, J, sm_rf 41 d)
        refine sm_W.run (sm_C_mono D) 1 (G := True) (fr' := (12, [some (.ref 0), some (.int x1), some (.int x2), some (.int x3), some (.ref 96), none], [.int (1 : Int32)], 3, 18)) (M' := (I, J, sm_rf 41 d)) rfl trivial ?_
        cases h
        exact sm_W.ret (sm_C_mono D) rfl hQ
      cases h
theorem T_Law_row {X : Nat × (Nat → Int32)} {t d D : Nat} {Q : sm_Q} {I : sm_MI} {J : sm_MJ} {x1 : Int32} {x2 : Int32} {x3 : Int32} {rz : Int32} {Jz : sm_MJ}
    (hD : 4 ≤ D) (ht : t = 21 ∨ t = 41) (h : F_Law_row t x1 x2 x3 I J = some (rz, Jz)) (hQ : Q (.inl (some (.int rz))) (I, Jz, sm_rf t d)) : sm_C sm_sh X sm_P D 274 [.ref 0, .int x1, .int x2, .int x3, .ref 96] (I, J, sm_rf t d) Q := by
  cases D with
  | zero => omega
  | succ D => exact sm_C.of (me := me_274) (L := [some (.ref 0), some (.int x1), some (.int x2), some (.int x3), some (.ref 96), none]) rfl rfl rfl (sm_W.forget (L' := [some (.ref 0), some (.int x1), some (.int x2), some (.int x3), some (.ref 96), none]) ⟨rfl, ⟨rfl, ⟨rfl, ⟨rfl, ⟨rfl, trivial⟩⟩⟩⟩⟩ (G_Law_row (by omega) ht h hQ))
