/-! ===== printed by wip/gen/emit_parts.py: what the methods compute ===== -/
-- 108 VM_row
noncomputable def F_VM_row (t : Nat) (x1 : Int32) (x2 : Int32) (x3 : Int32) (I : sm_MI) : Option ((Int32 ⊕ Nat)) :=
  sd_t1 (F_VM_checkRow t x1 x2 I) (fun r1 =>
    sd_lt ((x1 * (4 : Int32)) + x2) fun a2 =>
    if ¬ x3 = (-1 : Int32) then
      if ¬ x3 = (-2 : Int32) then
        if x3 < 0 then
          some (.inr 1)
        else
          sd_gu (sm_in a2 20 = true) <|
          if (I (t + 7) (Int32.toNatClampNeg a2)) ≤ x3 then
            some (.inr 1)
          else
            if x3 < (12 : Int32) then
              sd_gu (sm_in ((a2 * (12 : Int32)) + x3) 240 = true) <|
              some (.inl (I (t + 8) (Int32.toNatClampNeg ((a2 * (12 : Int32)) + x3))))
            else
              some (.inr 1)
      else
        sd_gu (sm_in a2 20 = true) <|
        some (.inl (I (t + 7) (Int32.toNatClampNeg a2)))
    else
      sd_gu (sm_in a2 20 = true) <|
      some (.inl (I (t + 6) (Int32.toNatClampNeg a2))))
    (fun r1 => some (.inr r1))
theorem G_VM_row {X : Nat × (Nat → Int32)} {t d D : Nat} {Q : sm_Q} {I : sm_MI} {J : sm_MJ} {x1 : Int32} {x2 : Int32} {x3 : Int32} {rz : (Int32 ⊕ Nat)}
    (hD : 2 ≤ D) (ht : t = 21 ∨ t = 41) (h : F_VM_row t x1 x2 x3 I = some (rz)) (hQ1 : ∀ v, rz = .inl v → Q (.inl (some (.int v))) (I, J, sm_rf t d)) (hQ2 : ∀ E, rz = .inr E → Q (.inr E) (I, J, sm_rf t d))  : sm_W sm_sh X (sm_C sm_sh X sm_P D) me_108 Q (0, [some (.ref 0), some (.int x1), some (.int x2), some (.int x3), none], [], 0, 0) (I, J, sm_rf t d) := by
  unfold F_VM_row at h
  rcases ht with rfl | rfl
  · skip
    refine sm_W.run (sm_C_mono D) 3 (G := True) (fr' := (3, [some (.ref 0), some (.int x1), some (.int x2), some (.int x3), none], [.int x2, .int x1, .ref 0], 0, 0)) (M' := (I, J, sm_rf 21 d)) rfl trivial ?_
    rcases sd_t1_go h with ⟨r1, hc, h⟩ | ⟨r1, hc, h⟩
    · refine sm_W.cal (sm_C_mono D) (y := 154) (as := [.ref 0, .int x1, .int x2]) (fr' := (4, [some (.ref 0), some (.int x1), some (.int x2), some (.int x3), none], [], 2, 12)) rfl (T_VM_checkRow (by omega) (by decide) hc (fun _ e => ?_) (fun _ e => by cases e))
      cases e
      show sm_W sm_sh X (sm_C sm_sh X sm_P D) me_108 Q (4, [some (.ref 0), some (.int x1), some (.int x2), some (.int x3), none], [], 2, 12) (I, J, sm_rf 21 d)
      refine sm_W.runL (sm_C_mono D) 6 (G := True) (e := ((x1 * (4 : Int32)) + x2)) (fr' := fun a2 => (10, [some (.ref 0), some (.int x1), some (.int x2), some (.int x3), some (.int a2)], [], 2, 12)) (M' := fun _ => (I, J, sm_rf 21 d)) rfl h trivial (fun a2 h => ?_)
      refine sm_W.run (sm_C_mono D) 3 (G := True) (fr' := (if decide (¬ x3 = (-1 : Int32)) = true then 19 else 13, [some (.ref 0), some (.int x1), some (.int x2), some (.int x3), some (.int a2)], [], 2, 12)) (M' := (I, J, sm_rf 21 d)) rfl trivial (sm_W.iteD h (fun hc h => ?_) (fun hc h => ?_))
      · refine sm_W.run (sm_C_mono D) 3 (G := True) (fr' := (if decide (¬ x3 = (-2 : Int32)) = true then 28 else 22, [some (.ref 0), some (.int x1), some (.int x2), some (.int x3), some (.int a2)], [], 2, 12)) (M' := (I, J, sm_rf 21 d)) rfl trivial (sm_W.iteD h (fun hc h => ?_) (fun hc h => ?_))
        · refine sm_W.run (sm_C_mono D) 2 (G := True) (fr' := (if decide (x3 < 0) = true then 40 else 30, [some (.ref 0), some (.int x1), some (.int x2), some (.int x3), some (.int a2)], [], 2, 12)) (M' := (I, J, sm_rf 21 d)) rfl trivial (sm_W.iteD h (fun hc h => ?_) (fun hc h => ?_))
          · cases h
            exact sm_W.thr (sm_C_mono D) rfl (hQ2 _ rfl)
          · obtain ⟨g3, h⟩ := sd_gu_go h
            refine sm_W.run (sm_C_mono D) 7 (G := sm_in a2 20 = true ∧ True) (fr' := (if decide ((I (21 + 7) (Int32.toNatClampNeg a2)) ≤ x3) = true then 40 else 37, [some (.ref 0), some (.int x1), some (.int x2), some (.int x3), some (.int a2)], [], 2, 12)) (M' := (I, J, sm_rf 21 d)) rfl ⟨g3, trivial⟩ (sm_W.iteD h (fun hc h => ?_) (fun hc h => ?_))
            · cases h
              exact sm_W.thr (sm_C_mono D) rfl (hQ2 _ rfl)
            · refine sm_W.run (sm_C_mono D) 3 (G := True) (fr' := (if decide (x3 < (12 : Int32)) = true then 45 else 40, [some (.ref 0), some (.int x1), some (.int x2), some (.int x3), some (.int a2)], [], 2, 12)) (M' := (I, J, sm_rf 21 d)) rfl trivial (sm_W.iteD h (fun hc h => ?_) (fun hc h => ?_))
              · obtain ⟨g4, h⟩ := sd_gu_go h
                refine sm_W.run (sm_C_mono D) 9 (G := sm_in ((a2 * (12 : Int32)) + x3) 240 = true ∧ True) (fr' := (54, [some (.ref 0), some (.int x1), some (.int x2), some (.int x3), some (.int a2)], [.int (I (21 + 8) (Int32.toNatClampNeg ((a2 * (12 : Int32)) + x3)))], 2, 12)) (M' := (I, J, sm_rf 21 d)) rfl ⟨g4, trivial⟩ ?_
                cases h
                exact sm_W.ret (sm_C_mono D) rfl (hQ1 _ rfl)
              · cases h
                exact sm_W.thr (sm_C_mono D) rfl (hQ2 _ rfl)
        · obtain ⟨g5, h⟩ := sd_gu_go h
          refine sm_W.run (sm_C_mono D) 5 (G := sm_in a2 20 = true ∧ True) (fr' := (27, [some (.ref 0), some (.int x1), some (.int x2), some (.int x3), some (.int a2)], [.int (I (21 + 7) (Int32.toNatClampNeg a2))], 2, 12)) (M' := (I, J, sm_rf 21 d)) rfl ⟨g5, trivial⟩ ?_
          cases h
          exact sm_W.ret (sm_C_mono D) rfl (hQ1 _ rfl)
      · obtain ⟨g6, h⟩ := sd_gu_go h
        refine sm_W.run (sm_C_mono D) 5 (G := sm_in a2 20 = true ∧ True) (fr' := (18, [some (.ref 0), some (.int x1), some (.int x2), some (.int x3), some (.int a2)], [.int (I (21 + 6) (Int32.toNatClampNeg a2))], 2, 12)) (M' := (I, J, sm_rf 21 d)) rfl ⟨g6, trivial⟩ ?_
        cases h
        exact sm_W.ret (sm_C_mono D) rfl (hQ1 _ rfl)
    · refine sm_W.cal (sm_C_mono D) (y := 154) (as := [.ref 0, .int x1, .int x2]) (fr' := (4, [some (.ref 0), some (.int x1), some (.int x2), some (.int x3), none], [], 2, 12)) rfl (T_VM_checkRow (by omega) (by decide) hc (fun _ e => by cases e) (fun _ e => ?_))
      cases e
      cases h
      exact ⟨rfl, hQ2 _ rfl⟩
  · skip
    refine sm_W.run (sm_C_mono D) 3 (G := True) (fr' := (3, [some (.ref 0), some (.int x1), some (.int x2), some (.int x3), none], [.int x2, .int x1, .ref 0], 0, 0)) (M' := (I, J, sm_rf 41 d)) rfl trivial ?_
    rcases sd_t1_go h with ⟨r1, hc, h⟩ | ⟨r1, hc, h⟩
    · refine sm_W.cal (sm_C_mono D) (y := 154) (as := [.ref 0, .int x1, .int x2]) (fr' := (4, [some (.ref 0), some (.int x1), some (.int x2), some (.int x3), none], [], 2, 12)) rfl (T_VM_checkRow (by omega) (by decide) hc (fun _ e => ?_) (fun _ e => by cases e))
      cases e
      show sm_W sm_sh X (sm_C sm_sh X sm_P D) me_108 Q (4, [some (.ref 0), some (.int x1), some (.int x2), some (.int x3), none], [], 2, 12) (I, J, sm_rf 41 d)
      refine sm_W.runL (sm_C_mono D) 6 (G := True) (e := ((x1 * (4 : Int32)) + x2)) (fr' := fun a2 => (10, [some (.ref 0), some (.int x1), some (.int x2), some (.int x3), some (.int a2)], [], 2, 12)) (M' := fun _ => (I, J, sm_rf 41 d)) rfl h trivial (fun a2 h => ?_)
      refine sm_W.run (sm_C_mono D) 3 (G := True) (fr' := (if decide (¬ x3 = (-1 : Int32)) = true then 19 else 13, [some (.ref 0), some (.int x1), some (.int x2), some (.int x3), some (.int a2)], [], 2, 12)) (M' := (I, J, sm_rf 41 d)) rfl trivial (sm_W.iteD h (fun hc h => ?_) (fun hc h => ?_))
      · refine sm_W.run (sm_C_mono D) 3 (G := True) (fr' := (if decide (¬ x3 = (-2 : Int32)) = true then 28 else 22, [some (.ref 0), some (.int x1), some (.int x2), some (.int x3), some (.int a2)], [], 2, 12)) (M' := (I, J, sm_rf 41 d)) rfl trivial (sm_W.iteD h (fun hc h => ?_) (fun hc h => ?_))
        · refine sm_W.run (sm_C_mono D) 2 (G := True) (fr' := (if decide (x3 < 0) = true then 40 else 30, [some (.ref 0), some (.int x1), some (.int x2), some (.int x3), some (.int a2)], [], 2, 12)) (M' := (I, J, sm_rf 41 d)) rfl trivial (sm_W.iteD h (fun hc h => ?_) (fun hc h => ?_))
          · cases h
            exact sm_W.thr (sm_C_mono D) rfl (hQ2 _ rfl)
          · obtain ⟨g3, h⟩ := sd_gu_go h
            refine sm_W.run (sm_C_mono D) 7 (G := sm_in a2 20 = true ∧ True) (fr' := (if decide ((I (41 + 7) (Int32.toNatClampNeg a2)) ≤ x3) = true then 40 else 37, [some (.ref 0), some (.int x1), some (.int x2), some (.int x3), some (.int a2)], [], 2, 12)) (M' := (I, J, sm_rf 41 d)) rfl ⟨g3, trivial⟩ (sm_W.iteD h (fun hc h => ?_) (fun hc h => ?_))
            · cases h
              exact sm_W.thr (sm_C_mono D) rfl (hQ2 _ rfl)
            · refine sm_W.run (sm_C_mono D) 3 (G := True) (fr' := (if decide (x3 < (12 : Int32)) = true then 45 else 40, [some (.ref 0), some (.int x1), some (.int x2), some (.int x3), some (.int a2)], [], 2, 12)) (M' := (I, J, sm_rf 41 d)) rfl trivial (sm_W.iteD h (fun hc h => ?_) (fun hc h => ?_))
              · obtain ⟨g4, h⟩ := sd_gu_go h
                refine sm_W.run (sm_C_mono D) 9 (G := sm_in ((a2 * (12 : Int32)) + x3) 240 = true ∧ True) (fr' := (54, [some (.ref 0), some (.int x1), some (.int x2), some (.int x3), some (.int a2)], [.int (I (41 + 8) (Int32.toNatClampNeg ((a2 * (12 : Int32)) + x3)))], 2, 12)) (M' := (I, J, sm_rf 41 d)) rfl ⟨g4, trivial⟩ ?_
                cases h
                exact sm_W.ret (sm_C_mono D) rfl (hQ1 _ rfl)
              · cases h
                exact sm_W.thr (sm_C_mono D) rfl (hQ2 _ rfl)
        · obtain ⟨g5, h⟩ := sd_gu_go h
          refine sm_W.run (sm_C_mono D) 5 (G := sm_in a2 20 = true ∧ True) (fr' := (27, [some (.ref 0), some (.int x1), some (.int x2), some (.int x3), some (.int a2)], [.int (I (41 + 7) (Int32.toNatClampNeg a2))], 2, 12)) (M' := (I, J, sm_rf 41 d)) rfl ⟨g5, trivial⟩ ?_
          cases h
          exact sm_W.ret (sm_C_mono D) rfl (hQ1 _ rfl)
      · obtain ⟨g6, h⟩ := sd_gu_go h
        refine sm_W.run (sm_C_mono D) 5 (G := sm_in a2 20 = true ∧ True) (fr' := (18, [some (.ref 0), some (.int x1), some (.int x2), some (.int x3), some (.int a2)], [.int (I (41 + 6) (Int32.toNatClampNeg a2))], 2, 12)) (M' := (I, J, sm_rf 41 d)) rfl ⟨g6, trivial⟩ ?_
        cases h
        exact sm_W.ret (sm_C_mono D) rfl (hQ1 _ rfl)
    · refine sm_W.cal (sm_C_mono D) (y := 154) (as := [.ref 0, .int x1, .int x2]) (fr' := (4, [some (.ref 0), some (.int x1), some (.int x2), some (.int x3), none], [], 2, 12)) rfl (T_VM_checkRow (by omega) (by decide) hc (fun _ e => by cases e) (fun _ e => ?_))
      cases e
      cases h
      exact ⟨rfl, hQ2 _ rfl⟩
theorem T_VM_row {X : Nat × (Nat → Int32)} {t d D : Nat} {Q : sm_Q} {I : sm_MI} {J : sm_MJ} {x1 : Int32} {x2 : Int32} {x3 : Int32} {rz : (Int32 ⊕ Nat)}
    (hD : 3 ≤ D) (ht : t = 21 ∨ t = 41) (h : F_VM_row t x1 x2 x3 I = some (rz)) (hQ1 : ∀ v, rz = .inl v → Q (.inl (some (.int v))) (I, J, sm_rf t d)) (hQ2 : ∀ E, rz = .inr E → Q (.inr E) (I, J, sm_rf t d)) : sm_C sm_sh X sm_P D 108 [.ref 0, .int x1, .int x2, .int x3] (I, J, sm_rf t d) Q := by
  cases D with
  | zero => omega
  | succ D => exact sm_C.of (me := me_108) (L := [some (.ref 0), some (.int x1), some (.int x2), some (.int x3), none]) rfl rfl rfl (sm_W.forget (L' := [some (.ref 0), some (.int x1), some (.int x2), some (.int x3), none]) ⟨rfl, ⟨rfl, ⟨rfl, ⟨rfl, trivial⟩⟩⟩⟩ (G_VM_row (by omega) ht h hQ1 hQ2))
-- 109 VM_able
noncomputable def F_VM_able (t : Nat) (x1 : Int32) (x2 : Int32) (I : sm_MI) : Option ((Int32 ⊕ Nat)) :=
  sd_t1 (F_VM_checkRow t x1 x2 I) (fun r1 =>
    sd_gu (sm_in ((x1 * (4 : Int32)) + x2) 20 = true) <|
    some (.inl ((I (t + 11) (Int32.toNatClampNeg ((x1 * (4 : Int32)) + x2))) &&& (I 9 0))))
    (fun r1 => some (.inr r1))
theorem G_VM_able {X : Nat × (Nat → Int32)} {t d D : Nat} {Q : sm_Q} {I : sm_MI} {J : sm_MJ} {x1 : Int32} {x2 : Int32} {rz : (Int32 ⊕ Nat)}
    (hD : 2 ≤ D) (ht : t = 21 ∨ t = 41) (h : F_VM_able t x1 x2 I = some (rz)) (hQ1 : ∀ v, rz = .inl v → Q (.inl (some (.int v))) (I, J, sm_rf t d)) (hQ2 : ∀ E, rz = .inr E → Q (.inr E) (I, J, sm_rf t d))  : sm_W sm_sh X (sm_C sm_sh X sm_P D) me_109 Q (0, [some (.ref 0), some (.int x1), some (.int x2)], [], 0, 0) (I, J, sm_rf t d) := by
  unfold F_VM_able at h
  rcases ht with rfl | rfl
  · skip
    refine sm_W.run (sm_C_mono D) 3 (G := True) (fr' := (3, [some (.ref 0), some (.int x1), some (.int x2)], [.int x2, .int x1, .ref 0], 0, 0)) (M' := (I, J, sm_rf 21 d)) rfl trivial ?_
    rcases sd_t1_go h with ⟨r1, hc, h⟩ | ⟨r1, hc, h⟩
    · refine sm_W.cal (sm_C_mono D) (y := 154) (as := [.ref 0, .int x1, .int x2]) (fr' := (4, [some (.ref 0), some (.int x1), some (.int x2)], [], 2, 12)) rfl (T_VM_checkRow (by omega) (by decide) hc (fun _ e => ?_) (fun _ e => by cases e))
      cases e
      show sm_W sm_sh X (sm_C sm_sh X sm_P D) me_109 Q (4, [some (.ref 0), some (.int x1), some (.int x2)], [], 2, 12) (I, J, sm_rf 21 d)
      obtain ⟨g2, h⟩ := sd_gu_go h
      refine sm_W.run (sm_C_mono D) 14 (G := sm_in ((x1 * (4 : Int32)) + x2) 20 = true ∧ True) (fr' := (18, [some (.ref 0), some (.int x1), some (.int x2)], [.int ((I (21 + 11) (Int32.toNatClampNeg ((x1 * (4 : Int32)) + x2))) &&& (I 9 0))], 2, 12)) (M' := (I, J, sm_rf 21 d)) rfl ⟨g2, trivial⟩ ?_
      cases h
      exact sm_W.ret (sm_C_mono D) rfl (hQ1 _ rfl)
    · refine sm_W.cal (sm_C_mono D) (y := 154) (as := [.ref 0, .int x1, .int x2]) (fr' := (4, [some (.ref 0), some (.int x1), some (.int x2)], [], 2, 12)) rfl (T_VM_checkRow (by omega) (by decide) hc (fun _ e => by cases e) (fun _ e => ?_))
      cases e
      cases h
      exact ⟨rfl, hQ2 _ rfl⟩
  · skip
    refine sm_W.run (sm_C_mono D) 3 (G := True) (fr' := (3, [some (.ref 0), some (.int x1), some (.int x2)], [.int x2, .int x1, .ref 0], 0, 0)) (M' := (I, J, sm_rf 41 d)) rfl trivial ?_
    rcases sd_t1_go h with ⟨r1, hc, h⟩ | ⟨r1, hc, h⟩
    · refine sm_W.cal (sm_C_mono D) (y := 154) (as := [.ref 0, .int x1, .int x2]) (fr' := (4, [some (.ref 0), some (.int x1), some (.int x2)], [], 2, 12)) rfl (T_VM_checkRow (by omega) (by decide) hc (fun _ e => ?_) (fun _ e => by cases e))
      cases e
      show sm_W sm_sh X (sm_C sm_sh X sm_P D) me_109 Q (4, [some (.ref 0), some (.int x1), some (.int x2)], [], 2, 12) (I, J, sm_rf 41 d)
      obtain ⟨g2, h⟩ := sd_gu_go h
      refine sm_W.run (sm_C_mono D) 14 (G := sm_in ((x1 * (4 : Int32)) + x2) 20 = true ∧ True) (fr' := (18, [some (.ref 0), some (.int x1), some (.int x2)], [.int ((I (41 + 11) (Int32.toNatClampNeg ((x1 * (4 : Int32)) + x2))) &&& (I 9 0))], 2, 12)) (M' := (I, J, sm_rf 41 d)) rfl ⟨g2, trivial⟩ ?_
      cases h
      exact sm_W.ret (sm_C_mono D) rfl (hQ1 _ rfl)
    · refine sm_W.cal (sm_C_mono D) (y := 154) (as := [.ref 0, .int x1, .int x2]) (fr' := (4, [some (.ref 0), some (.int x1), some (.int x2)], [], 2, 12)) rfl (T_VM_checkRow (by omega) (by decide) hc (fun _ e => by cases e) (fun _ e => ?_))
      cases e
      cases h
      exact ⟨rfl, hQ2 _ rfl⟩
theorem T_VM_able {X : Nat × (Nat → Int32)} {t d D : Nat} {Q : sm_Q} {I : sm_MI} {J : sm_MJ} {x1 : Int32} {x2 : Int32} {rz : (Int32 ⊕ Nat)}
    (hD : 3 ≤ D) (ht : t = 21 ∨ t = 41) (h : F_VM_able t x1 x2 I = some (rz)) (hQ1 : ∀ v, rz = .inl v → Q (.inl (some (.int v))) (I, J, sm_rf t d)) (hQ2 : ∀ E, rz = .inr E → Q (.inr E) (I, J, sm_rf t d)) : sm_C sm_sh X sm_P D 109 [.ref 0, .int x1, .int x2] (I, J, sm_rf t d) Q := by
  cases D with
  | zero => omega
  | succ D => exact sm_C.of (me := me_109) (L := [some (.ref 0), some (.int x1), some (.int x2)]) rfl rfl rfl (sm_W.forget (L' := [some (.ref 0), some (.int x1), some (.int x2)]) ⟨rfl, ⟨rfl, ⟨rfl, trivial⟩⟩⟩ (G_VM_able (by omega) ht h hQ1 hQ2))
-- 110 VM_standIns
noncomputable def F_VM_standIns (t : Nat) (x1 : Int32) (I : sm_MI) : Option ((Int32 ⊕ Nat)) :=
  sd_t1 (F_VM_checkSinger t x1 I) (fun r1 =>
    sd_gu (sm_in x1 14 = true) <|
    sd_q1 (F_Valley_ofPart t (I (t + 2) (Int32.toNatClampNeg x1)) I) fun r3 =>
    sd_lt (r3 &&& (((1 : Int32) <<< (x1 &&& 31)) ^^^ (-1 : Int32))) fun a4 =>
    sd_gu (sm_in x1 14 = true) <|
    sd_gu (sm_in x1 14 = true) <|
    sd_q1 (F_Valley_reaching t a4 (I (t + 3) (Int32.toNatClampNeg x1)) (I (t + 4) (Int32.toNatClampNeg x1)) I) fun r7 =>
    some (.inl r7))
    (fun r1 => some (.inr r1))
theorem G_VM_standIns {X : Nat × (Nat → Int32)} {t d D : Nat} {Q : sm_Q} {I : sm_MI} {J : sm_MJ} {x1 : Int32} {rz : (Int32 ⊕ Nat)}
    (hD : 1 ≤ D) (ht : t = 21 ∨ t = 41) (h : F_VM_standIns t x1 I = some (rz)) (hQ1 : ∀ v, rz = .inl v → Q (.inl (some (.int v))) (I, J, sm_rf t d)) (hQ2 : ∀ E, rz = .inr E → Q (.inr E) (I, J, sm_rf t d))  : sm_W sm_sh X (sm_C sm_sh X sm_P D) me_110 Q (0, [some (.ref 0), some (.int x1), none], [], 0, 0) (I, J, sm_rf t d) := by
  unfold F_VM_standIns at h
  rcases ht with rfl | rfl
  · skip
    refine sm_W.run (sm_C_mono D) 2 (G := True) (fr' := (2, [some (.ref 0), some (.int x1), none], [.int x1, .ref 0], 0, 0)) (M' := (I, J, sm_rf 21 d)) rfl trivial ?_
    rcases sd_t1_go h with ⟨r1, hc, h⟩ | ⟨r1, hc, h⟩
    · refine sm_W.cal (sm_C_mono D) (y := 151) (as := [.ref 0, .int x1]) (fr' := (3, [some (.ref 0), some (.int x1), none], [], 1, 6)) rfl (T_VM_checkSinger (by omega) (by decide) hc (fun _ e => ?_) (fun _ e => by cases e))
      cases e
      show sm_W sm_sh X (sm_C sm_sh X sm_P D) me_110 Q (3, [some (.ref 0), some (.int x1), none], [], 1, 6) (I, J, sm_rf 21 d)
      obtain ⟨g2, h⟩ := sd_gu_go h
      refine sm_W.run (sm_C_mono D) 7 (G := sm_in x1 14 = true ∧ True) (fr' := (10, [some (.ref 0), some (.int x1), none], [.int (I (21 + 2) (Int32.toNatClampNeg x1)), .ref 21], 1, 6)) (M' := (I, J, sm_rf 21 d)) rfl ⟨g2, trivial⟩ ?_
      obtain ⟨r3, hc, h⟩ := sd_q1_go h
      refine sm_W.cal (sm_C_mono D) (y := 84) (as := [.ref 21, .int (I (21 + 2) (Int32.toNatClampNeg x1))]) (fr' := (11, [some (.ref 0), some (.int x1), none], [], 1, 6)) rfl (T_Valley_ofPart (by omega) (by decide) hc ?_)
      show sm_W sm_sh X (sm_C sm_sh X sm_P D) me_110 Q (11, [some (.ref 0), some (.int x1), none], [.int r3], 1, 6) (I, J, sm_rf 21 d)
      refine sm_W.runL (sm_C_mono D) 7 (G := True) (e := (r3 &&& (((1 : Int32) <<< (x1 &&& 31)) ^^^ (-1 : Int32)))) (fr' := fun a4 => (18, [some (.ref 0), some (.int x1), some (.int a4)], [], 1, 6)) (M' := fun _ => (I, J, sm_rf 21 d)) rfl h trivial (fun a4 h => ?_)
      obtain ⟨g5, h⟩ := sd_gu_go h
      obtain ⟨g6, h⟩ := sd_gu_go h
      refine sm_W.run (sm_C_mono D) 13 (G := sm_in x1 14 = true ∧ sm_in x1 14 = true ∧ True) (fr' := (31, [some (.ref 0), some (.int x1), some (.int a4)], [.int (I (21 + 4) (Int32.toNatClampNeg x1)), .int (I (21 + 3) (Int32.toNatClampNeg x1)), .int a4, .ref 21], 1, 6)) (M' := (I, J, sm_rf 21 d)) rfl ⟨g5, g6, trivial⟩ ?_
      obtain ⟨r7, hc, h⟩ := sd_q1_go h
      refine sm_W.cal (sm_C_mono D) (y := 85) (as := [.ref 21, .int a4, .int (I (21 + 3) (Int32.toNatClampNeg x1)), .int (I (21 + 4) (Int32.toNatClampNeg x1))]) (fr' := (32, [some (.ref 0), some (.int x1), some (.int a4)], [], 1, 6)) rfl (T_Valley_reaching (by omega) (by decide) hc ?_)
      show sm_W sm_sh X (sm_C sm_sh X sm_P D) me_110 Q (32, [some (.ref 0), some (.int x1), some (.int a4)], [.int r7], 1, 6) (I, J, sm_rf 21 d)
      cases h
      exact sm_W.ret (sm_C_mono D) rfl (hQ1 _ rfl)
    · refine sm_W.cal (sm_C_mono D) (y := 151) (as := [.ref 0, .int x1]) (fr' := (3, [some (.ref 0), some (.int x1), none], [], 1, 6)) rfl (T_VM_checkSinger (by omega) (by decide) hc (fun _ e => by cases e) (fun _ e => ?_))
      cases e
      cases h
      exact ⟨rfl, hQ2 _ rfl⟩
  · skip
    refine sm_W.run (sm_C_mono D) 2 (G := True) (fr' := (2, [some (.ref 0), some (.int x1), none], [.int x1, .ref 0], 0, 0)) (M' := (I, J, sm_rf 41 d)) rfl trivial ?_
    rcases sd_t1_go h with ⟨r1, hc, h⟩ | ⟨r1, hc, h⟩
    · refine sm_W.cal (sm_C_mono D) (y := 151) (as := [.ref 0, .int x1]) (fr' := (3, [some (.ref 0), some (.int x1), none], [], 1, 6)) rfl (T_VM_checkSinger (by omega) (by decide) hc (fun _ e => ?_) (fun _ e => by cases e))
      cases e
      show sm_W sm_sh X (sm_C sm_sh X sm_P D) me_110 Q (3, [some (.ref 0), some (.int x1), none], [], 1, 6) (I, J, sm_rf 41 d)
      obtain ⟨g2, h⟩ := sd_gu_go h
      refine sm_W.run (sm_C_mono D) 7 (G := sm_in x1 14 = true ∧ True) (fr' := (10, [some (.ref 0), some (.int x1), none], [.int (I (41 + 2) (Int32.toNatClampNeg x1)), .ref 41], 1, 6)) (M' := (I, J, sm_rf 41 d)) rfl ⟨g2, trivial⟩ ?_
      obtain ⟨r3, hc, h⟩ := sd_q1_go h
      refine sm_W.cal (sm_C_mono D) (y := 84) (as := [.ref 41, .int (I (41 + 2) (Int32.toNatClampNeg x1))]) (fr' := (11, [some (.ref 0), some (.int x1), none], [], 1, 6)) rfl (T_Valley_ofPart (by omega) (by decide) hc ?_)
      show sm_W sm_sh X (sm_C sm_sh X sm_P D) me_110 Q (11, [some (.ref 0), some (.int x1), none], [.int r3], 1, 6) (I, J, sm_rf 41 d)
      refine sm_W.runL (sm_C_mono D) 7 (G := True) (e := (r3 &&& (((1 : Int32) <<< (x1 &&& 31)) ^^^ (-1 : Int32)))) (fr' := fun a4 => (18, [some (.ref 0), some (.int x1), some (.int a4)], [], 1, 6)) (M' := fun _ => (I, J, sm_rf 41 d)) rfl h trivial (fun a4 h => ?_)
      obtain ⟨g5, h⟩ := sd_gu_go h
      obtain ⟨g6, h⟩ := sd_gu_go h
      refine sm_W.run (sm_C_mono D) 13 (G := sm_in x1 14 = true ∧ sm_in x1 14 = true ∧ True) (fr' := (31, [some (.ref 0), some (.int x1), some (.int a4)], [.int (I (41 + 4) (Int32.toNatClampNeg x1)), .int (I (41 + 3) (Int32.toNatClampNeg x1)), .int a4, .ref 41], 1, 6)) (M' := (I, J, sm_rf 41 d)) rfl ⟨g5, g6, trivial⟩ ?_
      obtain ⟨r7, hc, h⟩ := sd_q1_go h
      refine sm_W.cal (sm_C_mono D) (y := 85) (as := [.ref 41, .int a4, .int (I (41 + 3) (Int32.toNatClampNeg x1)), .int (I (41 + 4) (Int32.toNatClampNeg x1))]) (fr' := (32, [some (.ref 0), some (.int x1), some (.int a4)], [], 1, 6)) rfl (T_Valley_reaching (by omega) (by decide) hc ?_)
      show sm_W sm_sh X (sm_C sm_sh X sm_P D) me_110 Q (32, [some (.ref 0), some (.int x1), some (.int a4)], [.int r7], 1, 6) (I, J, sm_rf 41 d)
      cases h
      exact sm_W.ret (sm_C_mono D) rfl (hQ1 _ rfl)
    · refine sm_W.cal (sm_C_mono D) (y := 151) (as := [.ref 0, .int x1]) (fr' := (3, [some (.ref 0), some (.int x1), none], [], 1, 6)) rfl (T_VM_checkSinger (by omega) (by decide) hc (fun _ e => by cases e) (fun _ e => ?_))
      cases e
      cases h
      exact ⟨rfl, hQ2 _ rfl⟩
theorem T_VM_standIns {X : Nat × (Nat → Int32)} {t d D : Nat} {Q : sm_Q} {I : sm_MI} {J : sm_MJ} {x1 : Int32} {rz : (Int32 ⊕ Nat)}
    (hD : 2 ≤ D) (ht : t = 21 ∨ t = 41) (h : F_VM_standIns t x1 I = some (rz)) (hQ1 : ∀ v, rz = .inl v → Q (.inl (some (.int v))) (I, J, sm_rf t d)) (hQ2 : ∀ E, rz = .inr E → Q (.inr E) (I, J, sm_rf t d)) : sm_C sm_sh X sm_P D 110 [.ref 0, .int x1] (I, J, sm_rf t d) Q := by
  cases D with
  | zero => omega
  | succ D => exact sm_C.of (me := me_110) (L := [some (.ref 0), some (.int x1), none]) rfl rfl rfl (sm_W.forget (L' := [some (.ref 0), some (.int x1), none]) ⟨rfl, ⟨rfl, trivial⟩⟩ (G_VM_standIns (by omega) ht h hQ1 hQ2))
-- 111 VM_voices
noncomputable def F_VM_voices (t : Nat) (x1 : Int32) (x2 : Int32) (I : sm_MI) : Option ((Int32 ⊕ Nat)) :=
  if x1 < 0 then
    some (.inr 1)
  else
    if x1 < (3 : Int32) then
      sd_t1 (F_VM_checkPart x2) (fun r1 =>
        sd_q1 (F_Valley_ofSide t x1 I) fun r2 =>
        sd_q1 (F_Valley_ofPart t x2 I) fun r3 =>
        sd_q1 (F_Int_bitCount ((r2 &&& r3) &&& (I 9 0))) fun r4 =>
        some (.inl r4))
        (fun r1 => some (.inr r1))
    else
      some (.inr 1)
theorem G_VM_voices {X : Nat × (Nat → Int32)} {t d D : Nat} {Q : sm_Q} {I : sm_MI} {J : sm_MJ} {x1 : Int32} {x2 : Int32} {rz : (Int32 ⊕ Nat)}
    (hD : 1 ≤ D) (ht : t = 21 ∨ t = 41) (h : F_VM_voices t x1 x2 I = some (rz)) (hQ1 : ∀ v, rz = .inl v → Q (.inl (some (.int v))) (I, J, sm_rf t d)) (hQ2 : ∀ E, rz = .inr E → Q (.inr E) (I, J, sm_rf t d))  : sm_W sm_sh X (sm_C sm_sh X sm_P D) me_111 Q (0, [some (.ref 0), some (.int x1), some (.int x2)], [], 0, 0) (I, J, sm_rf t d) := by
  unfold F_VM_voices at h
  rcases ht with rfl | rfl
  · skip
    refine sm_W.run (sm_C_mono D) 2 (G := True) (fr' := (if decide (x1 < 0) = true then 5 else 2, [some (.ref 0), some (.int x1), some (.int x2)], [], 0, 0)) (M' := (I, J, sm_rf 21 d)) rfl trivial (sm_W.iteD h (fun hc h => ?_) (fun hc h => ?_))
    · cases h
      exact sm_W.thr (sm_C_mono D) rfl (hQ2 _ rfl)
    · refine sm_W.run (sm_C_mono D) 3 (G := True) (fr' := (if decide (x1 < (3 : Int32)) = true then 10 else 5, [some (.ref 0), some (.int x1), some (.int x2)], [], 0, 0)) (M' := (I, J, sm_rf 21 d)) rfl trivial (sm_W.iteD h (fun hc h => ?_) (fun hc h => ?_))
      · refine sm_W.run (sm_C_mono D) 2 (G := True) (fr' := (12, [some (.ref 0), some (.int x1), some (.int x2)], [.int x2, .ref 0], 0, 0)) (M' := (I, J, sm_rf 21 d)) rfl trivial ?_
        rcases sd_t1_go h with ⟨r1, hc, h⟩ | ⟨r1, hc, h⟩
        · refine sm_W.cal (sm_C_mono D) (y := 153) (as := [.ref 0, .int x2]) (fr' := (13, [some (.ref 0), some (.int x1), some (.int x2)], [], 1, 6)) rfl (T_VM_checkPart (by omega) hc (fun _ e => ?_) (fun _ e => by cases e))
          cases e
          show sm_W sm_sh X (sm_C sm_sh X sm_P D) me_111 Q (13, [some (.ref 0), some (.int x1), some (.int x2)], [], 1, 6) (I, J, sm_rf 21 d)
          refine sm_W.run (sm_C_mono D) 3 (G := True) (fr' := (16, [some (.ref 0), some (.int x1), some (.int x2)], [.int x1, .ref 21], 1, 6)) (M' := (I, J, sm_rf 21 d)) rfl trivial ?_
          obtain ⟨r2, hc, h⟩ := sd_q1_go h
          refine sm_W.cal (sm_C_mono D) (y := 83) (as := [.ref 21, .int x1]) (fr' := (17, [some (.ref 0), some (.int x1), some (.int x2)], [], 1, 6)) rfl (T_Valley_ofSide (by omega) (by decide) hc ?_)
          show sm_W sm_sh X (sm_C sm_sh X sm_P D) me_111 Q (17, [some (.ref 0), some (.int x1), some (.int x2)], [.int r2], 1, 6) (I, J, sm_rf 21 d)
          refine sm_W.run (sm_C_mono D) 3 (G := True) (fr' := (20, [some (.ref 0), some (.int x1), some (.int x2)], [.int x2, .ref 21, .int r2], 1, 6)) (M' := (I, J, sm_rf 21 d)) rfl trivial ?_
          obtain ⟨r3, hc, h⟩ := sd_q1_go h
          refine sm_W.cal (sm_C_mono D) (y := 84) (as := [.ref 21, .int x2]) (fr' := (21, [some (.ref 0), some (.int x1), some (.int x2)], [.int r2], 1, 6)) rfl (T_Valley_ofPart (by omega) (by decide) hc ?_)
          show sm_W sm_sh X (sm_C sm_sh X sm_P D) me_111 Q (21, [some (.ref 0), some (.int x1), some (.int x2)], [.int r3, .int r2], 1, 6) (I, J, sm_rf 21 d)
          refine sm_W.run (sm_C_mono D) 6 (G := True) (fr' := (27, [some (.ref 0), some (.int x1), some (.int x2)], [.int ((r2 &&& r3) &&& (I 9 0))], 1, 6)) (M' := (I, J, sm_rf 21 d)) rfl trivial ?_
          obtain ⟨r4, hc, h⟩ := sd_q1_go h
          refine sm_W.cal (sm_C_mono D) (y := 268) (as := [.int ((r2 &&& r3) &&& (I 9 0))]) (fr' := (28, [some (.ref 0), some (.int x1), some (.int x2)], [], 1, 6)) rfl (T_Int_bitCount (by omega) hc ?_)
          show sm_W sm_sh X (sm_C sm_sh X sm_P D) me_111 Q (28, [some (.ref 0), some (.int x1), some (.int x2)], [.int r4], 1, 6) (I, J, sm_rf 21 d)
          cases h
          exact sm_W.ret (sm_C_mono D) rfl (hQ1 _ rfl)
        · refine sm_W.cal (sm_C_mono D) (y := 153) (as := [.ref 0, .int x2]) (fr' := (13, [some (.ref 0), some (.int x1), some (.int x2)], [], 1, 6)) rfl (T_VM_checkPart (by omega) hc (fun _ e => by cases e) (fun _ e => ?_))
          cases e
          cases h
          exact ⟨rfl, hQ2 _ rfl⟩
      · cases h
        exact sm_W.thr (sm_C_mono D) rfl (hQ2 _ rfl)
  · skip
    refine sm_W.run (sm_C_mono D) 2 (G := True) (fr' := (if decide (x1 < 0) = true then 5 else 2, [some (.ref 0), some (.int x1), some (.int x2)], [], 0, 0)) (M' := (I, J, sm_rf 41 d)) rfl trivial (sm_W.iteD h (fun hc h => ?_) (fun hc h => ?_))
    · cases h
      exact sm_W.thr (sm_C_mono D) rfl (hQ2 _ rfl)
    · refine sm_W.run (sm_C_mono D) 3 (G := True) (fr' := (if decide (x1 < (3 : Int32)) = true then 10 else 5, [some (.ref 0), some (.int x1), some (.int x2)], [], 0, 0)) (M' := (I, J, sm_rf 41 d)) rfl trivial (sm_W.iteD h (fun hc h => ?_) (fun hc h => ?_))
      · refine sm_W.run (sm_C_mono D) 2 (G := True) (fr' := (12, [some (.ref 0), some (.int x1), some (.int x2)], [.int x2, .ref 0], 0, 0)) (M' := (I, J, sm_rf 41 d)) rfl trivial ?_
        rcases sd_t1_go h with ⟨r1, hc, h⟩ | ⟨r1, hc, h⟩
        · refine sm_W.cal (sm_C_mono D) (y := 153) (as := [.ref 0, .int x2]) (fr' := (13, [some (.ref 0), some (.int x1), some (.int x2)], [], 1, 6)) rfl (T_VM_checkPart (by omega) hc (fun _ e => ?_) (fun _ e => by cases e))
          cases e
          show sm_W sm_sh X (sm_C sm_sh X sm_P D) me_111 Q (13, [some (.ref 0), some (.int x1), some (.int x2)], [], 1, 6) (I, J, sm_rf 41 d)
          refine sm_W.run (sm_C_mono D) 3 (G := True) (fr' := (16, [some (.ref 0), some (.int x1), some (.int x2)], [.int x1, .ref 41], 1, 6)) (M' := (I, J, sm_rf 41 d)) rfl trivial ?_
          obtain ⟨r2, hc, h⟩ := sd_q1_go h
          refine sm_W.cal (sm_C_mono D) (y := 83) (as := [.ref 41, .int x1]) (fr' := (17, [some (.ref 0), some (.int x1), some (.int x2)], [], 1, 6)) rfl (T_Valley_ofSide (by omega) (by decide) hc ?_)
          show sm_W sm_sh X (sm_C sm_sh X sm_P D) me_111 Q (17, [some (.ref 0), some (.int x1), some (.int x2)], [.int r2], 1, 6) (I, J, sm_rf 41 d)
          refine sm_W.run (sm_C_mono D) 3 (G := True) (fr' := (20, [some (.ref 0), some (.int x1), some (.int x2)], [.int x2, .ref 41, .int r2], 1, 6)) (M' := (I, J, sm_rf 41 d)) rfl trivial ?_
          obtain ⟨r3, hc, h⟩ := sd_q1_go h
          refine sm_W.cal (sm_C_mono D) (y := 84) (as := [.ref 41, .int x2]) (fr' := (21, [some (.ref 0), some (.int x1), some (.int x2)], [.int r2], 1, 6)) rfl (T_Valley_ofPart (by omega) (by decide) hc ?_)
          show sm_W sm_sh X (sm_C sm_sh X sm_P D) me_111 Q (21, [some (.ref 0), some (.int x1), some (.int x2)], [.int r3, .int r2], 1, 6) (I, J, sm_rf 41 d)
          refine sm_W.run (sm_C_mono D) 6 (G := True) (fr' := (27, [some (.ref 0), some (.int x1), some (.int x2)], [.int ((r2 &&& r3) &&& (I 9 0))], 1, 6)) (M' := (I, J, sm_rf 41 d)) rfl trivial ?_
          obtain ⟨r4, hc, h⟩ := sd_q1_go h
          refine sm_W.cal (sm_C_mono D) (y := 268) (as := [.int ((r2 &&& r3) &&& (I 9 0))]) (fr' := (28, [some (.ref 0), some (.int x1), some (.int x2)], [], 1, 6)) rfl (T_Int_bitCount (by omega) hc ?_)
          show sm_W sm_sh X (sm_C sm_sh X sm_P D) me_111 Q (28, [some (.ref 0), some (.int x1), some (.int x2)], [.int r4], 1, 6) (I, J, sm_rf 41 d)
          cases h
          exact sm_W.ret (sm_C_mono D) rfl (hQ1 _ rfl)
        · refine sm_W.cal (sm_C_mono D) (y := 153) (as := [.ref 0, .int x2]) (fr' := (13, [some (.ref 0), some (.int x1), some (.int x2)], [], 1, 6)) rfl (T_VM_checkPart (by omega) hc (fun _ e => by cases e) (fun _ e => ?_))
          cases e
          cases h
          exact ⟨rfl, hQ2 _ rfl⟩
      · cases h
        exact sm_W.thr (sm_C_mono D) rfl (hQ2 _ rfl)
theorem T_VM_voices {X : Nat × (Nat → Int32)} {t d D : Nat} {Q : sm_Q} {I : sm_MI} {J : sm_MJ} {x1 : Int32} {x2 : Int32} {rz : (Int32 ⊕ Nat)}
    (hD : 2 ≤ D) (ht : t = 21 ∨ t = 41) (h : F_VM_voices t x1 x2 I = some (rz)) (hQ1 : ∀ v, rz = .inl v → Q (.inl (some (.int v))) (I, J, sm_rf t d)) (hQ2 : ∀ E, rz = .inr E → Q (.inr E) (I, J, sm_rf t d)) : sm_C sm_sh X sm_P D 111 [.ref 0, .int x1, .int x2] (I, J, sm_rf t d) Q := by
  cases D with
  | zero => omega
  | succ D => exact sm_C.of (me := me_111) (L := [some (.ref 0), some (.int x1), some (.int x2)]) rfl rfl rfl (sm_W.forget (L' := [some (.ref 0), some (.int x1), some (.int x2)]) ⟨rfl, ⟨rfl, ⟨rfl, trivial⟩⟩⟩ (G_VM_voices (by omega) ht h hQ1 hQ2))
-- 112 VM_rows
noncomputable def F_VM_rows_16B (t : Nat) (k16 : Int32 → Int32 → Int32 → Option ((Int32 ⊕ Nat))) (x2 : Int32) (x3 : Int32) (x4 : Int32) (I : sm_MI) : Option ((Int32 ⊕ Nat)) :=
  if (20 : Int32) ≤ x4 then
    some (.inl x3)
  else
    sd_gu (sm_in x4 20 = true) <|
    if ((I (t + 11) (Int32.toNatClampNeg x4)) &&& x2) = 0 then
      k16 x2 x3 (x4 + (1 : Int32))
    else
      k16 x2 (x3 + (1 : Int32)) (x4 + (1 : Int32))
noncomputable def F_VM_rows_16 (t : Nat) (I : sm_MI) (n : Nat) : Int32 → Int32 → Int32 → Option ((Int32 ⊕ Nat)) :=
  sd_fix (fun k x2 x3 x4 => F_VM_rows_16B t k x2 x3 x4 I) (fun _ _ _ => none) n
noncomputable def F_VM_rows (t : Nat) (x1 : Int32) (I : sm_MI) : Option ((Int32 ⊕ Nat)) :=
  sd_t1 (F_VM_checkSinger t x1 I) (fun r1 =>
    sd_lt (((1 : Int32) <<< (x1 &&& 31)) &&& (I 9 0)) fun a2 =>
    F_VM_rows_16 t I sd_fu a2 (0 : Int32) (0 : Int32))
    (fun r1 => some (.inr r1))
theorem G_VM_rows_16B {X : Nat × (Nat → Int32)} {t d D : Nat} {Q : sm_Q} {I : sm_MI} {J : sm_MJ} {k16 : Int32 → Int32 → Int32 → Option ((Int32 ⊕ Nat))} {x2 : Int32} {x3 : Int32} {x4 : Int32} {rz : (Int32 ⊕ Nat)}
    (hD : 1 ≤ D) (ht : t = 21 ∨ t = 41) (h : F_VM_rows_16B t k16 x2 x3 x4 I = some (rz)) (hQ1 : ∀ v, rz = .inl v → Q (.inl (some (.int v))) (I, J, sm_rf t d)) (hQ2 : ∀ E, rz = .inr E → Q (.inr E) (I, J, sm_rf t d)) (hk16 : ∀ (x2 : Int32) (x3 : Int32) (x4 : Int32), k16 x2 x3 x4 = some (rz) → sm_W sm_sh X (sm_C sm_sh X sm_P D) me_112 Q (16, [some (.ref 0), none, some (.int x2), some (.int x3), some (.int x4)], [], 1, 6) (I, J, sm_rf t d)) : sm_W sm_sh X (sm_C sm_sh X sm_P D) me_112 Q (16, [some (.ref 0), none, some (.int x2), some (.int x3), some (.int x4)], [], 1, 6) (I, J, sm_rf t d) := by
  unfold F_VM_rows_16B at h
  rcases ht with rfl | rfl
  · skip
    refine sm_W.run (sm_C_mono D) 3 (G := True) (fr' := (if decide ((20 : Int32) ≤ x4) = true then 30 else 19, [some (.ref 0), none, some (.int x2), some (.int x3), some (.int x4)], [], 1, 6)) (M' := (I, J, sm_rf 21 d)) rfl trivial (sm_W.iteD h (fun hc h => ?_) (fun hc h => ?_))
    · refine sm_W.run (sm_C_mono D) 1 (G := True) (fr' := (31, [some (.ref 0), none, some (.int x2), some (.int x3), some (.int x4)], [.int x3], 1, 6)) (M' := (I, J, sm_rf 21 d)) rfl trivial ?_
      cases h
      exact sm_W.ret (sm_C_mono D) rfl (hQ1 _ rfl)
    · obtain ⟨g1, h⟩ := sd_gu_go h
      refine sm_W.run (sm_C_mono D) 8 (G := sm_in x4 20 = true ∧ True) (fr' := (if decide (((I (21 + 11) (Int32.toNatClampNeg x4)) &&& x2) = 0) = true then 28 else 27, [some (.ref 0), none, some (.int x2), some (.int x3), some (.int x4)], [], 1, 6)) (M' := (I, J, sm_rf 21 d)) rfl ⟨g1, trivial⟩ (sm_W.iteD h (fun hc h => ?_) (fun hc h => ?_))
      · refine sm_W.run (sm_C_mono D) 2 (G := True) (fr' := (16, [some (.ref 0), none, some (.int x2), some (.int x3), some (.int (x4 + (1 : Int32)))], [], 1, 6)) (M' := (I, J, sm_rf 21 d)) rfl trivial ?_
        exact (hk16 _ _ _ h)
      · refine sm_W.run (sm_C_mono D) 3 (G := True) (fr' := (16, [some (.ref 0), none, some (.int x2), some (.int (x3 + (1 : Int32))), some (.int (x4 + (1 : Int32)))], [], 1, 6)) (M' := (I, J, sm_rf 21 d)) rfl trivial ?_
        exact (hk16 _ _ _ h)
  · skip
    refine sm_W.run (sm_C_mono D) 3 (G := True) (fr' := (if decide ((20 : Int32) ≤ x4) = true then 30 else 19, [some (.ref 0), none, some (.int x2), some (.int x3), some (.int x4)], [], 1, 6)) (M' := (I, J, sm_rf 41 d)) rfl trivial (sm_W.iteD h (fun hc h => ?_) (fun hc h => ?_))
    · refine sm_W.run (sm_C_mono D) 1 (G := True) (fr' := (31, [some (.ref 0), none, some (.int x2), some (.int x3), some (.int x4)], [.int x3], 1, 6)) (M' := (I, J, sm_rf 41 d)) rfl trivial ?_
      cases h
      exact sm_W.ret (sm_C_mono D) rfl (hQ1 _ rfl)
    · obtain ⟨g1, h⟩ := sd_gu_go h
      refine sm_W.run (sm_C_mono D) 8 (G := sm_in x4 20 = true ∧ True) (fr' := (if decide (((I (41 + 11) (Int32.toNatClampNeg x4)) &&& x2) = 0) = true then 28 else 27, [some (.ref 0), none, some (.int x2), some (.int x3), some (.int x4)], [], 1, 6)) (M' := (I, J, sm_rf 41 d)) rfl ⟨g1, trivial⟩ (sm_W.iteD h (fun hc h => ?_) (fun hc h => ?_))
      · refine sm_W.run (sm_C_mono D) 2 (G := True) (fr' := (16, [some (.ref 0), none, some (.int x2), some (.int x3), some (.int (x4 + (1 : Int32)))], [], 1, 6)) (M' := (I, J, sm_rf 41 d)) rfl trivial ?_
        exact (hk16 _ _ _ h)
      · refine sm_W.run (sm_C_mono D) 3 (G := True) (fr' := (16, [some (.ref 0), none, some (.int x2), some (.int (x3 + (1 : Int32))), some (.int (x4 + (1 : Int32)))], [], 1, 6)) (M' := (I, J, sm_rf 41 d)) rfl trivial ?_
        exact (hk16 _ _ _ h)
theorem G_VM_rows_16 {X : Nat × (Nat → Int32)} {t d D : Nat} {Q : sm_Q} {I : sm_MI} {J : sm_MJ} {rz : (Int32 ⊕ Nat)}
    (hD : 1 ≤ D) (ht : t = 21 ∨ t = 41) (hQ1 : ∀ v, rz = .inl v → Q (.inl (some (.int v))) (I, J, sm_rf t d)) (hQ2 : ∀ E, rz = .inr E → Q (.inr E) (I, J, sm_rf t d))  : ∀ (n : Nat) (x2 : Int32) (x3 : Int32) (x4 : Int32), F_VM_rows_16 t I n x2 x3 x4 = some (rz) → sm_W sm_sh X (sm_C sm_sh X sm_P D) me_112 Q (16, [some (.ref 0), none, some (.int x2), some (.int x3), some (.int x4)], [], 1, 6) (I, J, sm_rf t d) := by
  intro n
  induction n with
  | zero => intro x2 x3 x4 h; cases (show (none : Option ((Int32 ⊕ Nat))) = some (rz) from h)
  | succ n ih => intro x2 x3 x4 h; exact G_VM_rows_16B hD ht (show F_VM_rows_16B t (F_VM_rows_16 t I n) x2 x3 x4 I = some (rz) from h) hQ1 hQ2  ih
theorem G_VM_rows {X : Nat × (Nat → Int32)} {t d D : Nat} {Q : sm_Q} {I : sm_MI} {J : sm_MJ} {x1 : Int32} {rz : (Int32 ⊕ Nat)}
    (hD : 1 ≤ D) (ht : t = 21 ∨ t = 41) (h : F_VM_rows t x1 I = some (rz)) (hQ1 : ∀ v, rz = .inl v → Q (.inl (some (.int v))) (I, J, sm_rf t d)) (hQ2 : ∀ E, rz = .inr E → Q (.inr E) (I, J, sm_rf t d))  : sm_W sm_sh X (sm_C sm_sh X sm_P D) me_112 Q (0, [some (.ref 0), some (.int x1), none, none, none], [], 0, 0) (I, J, sm_rf t d) := by
  unfold F_VM_rows at h
  rcases ht with rfl | rfl
  · skip
    refine sm_W.run (sm_C_mono D) 2 (G := True) (fr' := (2, [some (.ref 0), some (.int x1), none, none, none], [.int x1, .ref 0], 0, 0)) (M' := (I, J, sm_rf 21 d)) rfl trivial ?_
    rcases sd_t1_go h with ⟨r1, hc, h⟩ | ⟨r1, hc, h⟩
    · refine sm_W.cal (sm_C_mono D) (y := 151) (as := [.ref 0, .int x1]) (fr' := (3, [some (.ref 0), some (.int x1), none, none, none], [], 1, 6)) rfl (T_VM_checkSinger (by omega) (by decide) hc (fun _ e => ?_) (fun _ e => by cases e))
      cases e
      show sm_W sm_sh X (sm_C sm_sh X sm_P D) me_112 Q (3, [some (.ref 0), some (.int x1), none, none, none], [], 1, 6) (I, J, sm_rf 21 d)
      refine sm_W.runL (sm_C_mono D) 9 (G := True) (e := (((1 : Int32) <<< (x1 &&& 31)) &&& (I 9 0))) (fr' := fun a2 => (12, [some (.ref 0), some (.int x1), some (.int a2), none, none], [], 1, 6)) (M' := fun _ => (I, J, sm_rf 21 d)) rfl h trivial (fun a2 h => ?_)
      refine sm_W.run (sm_C_mono D) 4 (G := True) (fr' := (16, [some (.ref 0), some (.int x1), some (.int a2), some (.int (0 : Int32)), some (.int (0 : Int32))], [], 1, 6)) (M' := (I, J, sm_rf 21 d)) rfl trivial ?_
      exact sm_W.forget (L' := [some (.ref 0), none, some (.int a2), some (.int (0 : Int32)), some (.int (0 : Int32))]) ⟨rfl, ⟨rfl, ⟨rfl, ⟨rfl, trivial⟩⟩⟩⟩ (G_VM_rows_16 hD (by decide) hQ1 hQ2 sd_fu _ _ _ h)
    · refine sm_W.cal (sm_C_mono D) (y := 151) (as := [.ref 0, .int x1]) (fr' := (3, [some (.ref 0), some (.int x1), none, none, none], [], 1, 6)) rfl (T_VM_checkSinger (by omega) (by decide) hc (fun _ e => by cases e) (fun _ e => ?_))
      cases e
      cases h
      exact ⟨rfl, hQ2 _ rfl⟩
  · skip
    refine sm_W.run (sm_C_mono D) 2 (G := True) (fr' := (2, [some (.ref 0), some (.int x1), none, none, none], [.int x1, .ref 0], 0, 0)) (M' := (I, J, sm_rf 41 d)) rfl trivial ?_
    rcases sd_t1_go h with ⟨r1, hc, h⟩ | ⟨r1, hc, h⟩
    · refine sm_W.cal (sm_C_mono D) (y := 151) (as := [.ref 0, .int x1]) (fr' := (3, [some (.ref 0), some (.int x1), none, none, none], [], 1, 6)) rfl (T_VM_checkSinger (by omega) (by decide) hc (fun _ e => ?_) (fun _ e => by cases e))
      cases e
      show sm_W sm_sh X (sm_C sm_sh X sm_P D) me_112 Q (3, [some (.ref 0), some (.int x1), none, none, none], [], 1, 6) (I, J, sm_rf 41 d)
      refine sm_W.runL (sm_C_mono D) 9 (G := True) (e := (((1 : Int32) <<< (x1 &&& 31)) &&& (I 9 0))) (fr' := fun a2 => (12, [some (.ref 0), some (.int x1), some (.int a2), none, none], [], 1, 6)) (M' := fun _ => (I, J, sm_rf 41 d)) rfl h trivial (fun a2 h => ?_)
      refine sm_W.run (sm_C_mono D) 4 (G := True) (fr' := (16, [some (.ref 0), some (.int x1), some (.int a2), some (.int (0 : Int32)), some (.int (0 : Int32))], [], 1, 6)) (M' := (I, J, sm_rf 41 d)) rfl trivial ?_
      exact sm_W.forget (L' := [some (.ref 0), none, some (.int a2), some (.int (0 : Int32)), some (.int (0 : Int32))]) ⟨rfl, ⟨rfl, ⟨rfl, ⟨rfl, trivial⟩⟩⟩⟩ (G_VM_rows_16 hD (by decide) hQ1 hQ2 sd_fu _ _ _ h)
    · refine sm_W.cal (sm_C_mono D) (y := 151) (as := [.ref 0, .int x1]) (fr' := (3, [some (.ref 0), some (.int x1), none, none, none], [], 1, 6)) rfl (T_VM_checkSinger (by omega) (by decide) hc (fun _ e => by cases e) (fun _ e => ?_))
      cases e
      cases h
      exact ⟨rfl, hQ2 _ rfl⟩
theorem T_VM_rows {X : Nat × (Nat → Int32)} {t d D : Nat} {Q : sm_Q} {I : sm_MI} {J : sm_MJ} {x1 : Int32} {rz : (Int32 ⊕ Nat)}
    (hD : 2 ≤ D) (ht : t = 21 ∨ t = 41) (h : F_VM_rows t x1 I = some (rz)) (hQ1 : ∀ v, rz = .inl v → Q (.inl (some (.int v))) (I, J, sm_rf t d)) (hQ2 : ∀ E, rz = .inr E → Q (.inr E) (I, J, sm_rf t d)) : sm_C sm_sh X sm_P D 112 [.ref 0, .int x1] (I, J, sm_rf t d) Q := by
  cases D with
  | zero => omega
  | succ D => exact sm_C.of (me := me_112) (L := [some (.ref 0), some (.int x1), none, none, none]) rfl rfl rfl (sm_W.forget (L' := [some (.ref 0), some (.int x1), none, none, none]) ⟨rfl, ⟨rfl, trivial⟩⟩ (G_VM_rows (by omega) ht h hQ1 hQ2))
-- 113 VM_days
noncomputable def F_VM_days_14 (t : Nat) (I : sm_MI) : Option (Int32 × sm_MI) :=
  sd_gu (sm_in (1 : Int32) 3 = true) <|
  sd_gu (sm_in (1 : Int32) 3 = true) <|
  sd_lt (sd_up I 1 1 ((I 1 1) + (1 : Int32))) fun I3 =>
  some ((-1 : Int32), I3)
noncomputable def F_VM_days_29B (t : Nat) (k29 : Int32 → Int32 → sm_MI → Option (Int32 × sm_MI)) (x1 : Int32) (x2 : Int32) (I : sm_MI) : Option (Int32 × sm_MI) :=
  if x1 ≤ x2 then
    some ((I 9 3), I)
  else
    sd_q2 (F_War_passDay t 9 I) fun r1 I2 =>
    k29 x1 (x2 + (1 : Int32)) I2
noncomputable def F_VM_days_29 (t : Nat) (n : Nat) : Int32 → Int32 → sm_MI → Option (Int32 × sm_MI) :=
  sd_fix (fun k x1 x2 I => F_VM_days_29B t k x1 x2 I) (fun _ _ _ => none) n
noncomputable def F_VM_days (t : Nat) (x1 : Int32) (I : sm_MI) : Option (Int32 × sm_MI) :=
  if x1 < (1 : Int32) then
    F_VM_days_14 t I
  else
    if (30 : Int32) < x1 then
      F_VM_days_14 t I
    else
      if ((I 9 3) + x1) ≤ (999 : Int32) then
        sd_q1 (F_Story_keepAct I) fun I1 =>
        F_VM_days_29 t sd_fu x1 (0 : Int32) I1
      else
        F_VM_days_14 t I
theorem G_VM_days_14 {X : Nat × (Nat → Int32)} {t d D : Nat} {Q : sm_Q} {I : sm_MI} {J : sm_MJ} {rz : Int32} {Iz : sm_MI}
    (hD : 6 ≤ D) (ht : t = 21 ∨ t = 41) (h : F_VM_days_14 t I = some (rz, Iz)) (hQ : Q (.inl (some (.int rz))) (Iz, J, sm_rf t d))  : sm_W sm_sh X (sm_C sm_sh X sm_P D) me_113 Q (14, [some (.ref 0), none, none], [], 0, 0) (I, J, sm_rf t d) := by
  unfold F_VM_days_14 at h
  rcases ht with rfl | rfl
  · skip
    obtain ⟨g1, h⟩ := sd_gu_go h
    obtain ⟨g2, h⟩ := sd_gu_go h
    refine sm_W.runL (sm_C_mono D) 8 (G := sm_in (1 : Int32) 3 = true ∧ sm_in (1 : Int32) 3 = true ∧ True) (e := (sd_up I 1 1 ((I 1 1) + (1 : Int32)))) (fr' := fun _ => (22, [some (.ref 0), none, none], [], 0, 0)) (M' := fun I3 => (I3, J, sm_rf 21 d)) rfl h ⟨g1, g2, trivial⟩ (fun I3 h => ?_)
    refine sm_W.run (sm_C_mono D) 1 (G := True) (fr' := (23, [some (.ref 0), none, none], [.int (-1 : Int32)], 0, 0)) (M' := (I3, J, sm_rf 21 d)) rfl trivial ?_
    cases h
    exact sm_W.ret (sm_C_mono D) rfl hQ
  · skip
    obtain ⟨g1, h⟩ := sd_gu_go h
    obtain ⟨g2, h⟩ := sd_gu_go h
    refine sm_W.runL (sm_C_mono D) 8 (G := sm_in (1 : Int32) 3 = true ∧ sm_in (1 : Int32) 3 = true ∧ True) (e := (sd_up I 1 1 ((I 1 1) + (1 : Int32)))) (fr' := fun _ => (22, [some (.ref 0), none, none], [], 0, 0)) (M' := fun I3 => (I3, J, sm_rf 41 d)) rfl h ⟨g1, g2, trivial⟩ (fun I3 h => ?_)
    refine sm_W.run (sm_C_mono D) 1 (G := True) (fr' := (23, [some (.ref 0), none, none], [.int (-1 : Int32)], 0, 0)) (M' := (I3, J, sm_rf 41 d)) rfl trivial ?_
    cases h
    exact sm_W.ret (sm_C_mono D) rfl hQ
theorem G_VM_days_29B {X : Nat × (Nat → Int32)} {t d D : Nat} {Q : sm_Q} {I : sm_MI} {J : sm_MJ} {k29 : Int32 → Int32 → sm_MI → Option (Int32 × sm_MI)} {x1 : Int32} {x2 : Int32} {rz : Int32} {Iz : sm_MI}
    (hD : 6 ≤ D) (ht : t = 21 ∨ t = 41) (h : F_VM_days_29B t k29 x1 x2 I = some (rz, Iz)) (hQ : Q (.inl (some (.int rz))) (Iz, J, sm_rf t d)) (hk29 : ∀ (x1 : Int32) (x2 : Int32) (I : sm_MI), k29 x1 x2 I = some (rz, Iz) → sm_W sm_sh X (sm_C sm_sh X sm_P D) me_113 Q (29, [some (.ref 0), some (.int x1), some (.int x2)], [], 0, 0) (I, J, sm_rf t d)) : sm_W sm_sh X (sm_C sm_sh X sm_P D) me_113 Q (29, [some (.ref 0), some (.int x1), some (.int x2)], [], 0, 0) (I, J, sm_rf t d) := by
  unfold F_VM_days_29B at h
  rcases ht with rfl | rfl
  · skip
    refine sm_W.run (sm_C_mono D) 3 (G := True) (fr' := (if decide (x1 ≤ x2) = true then 41 else 32, [some (.ref 0), some (.int x1), some (.int x2)], [], 0, 0)) (M' := (I, J, sm_rf 21 d)) rfl trivial (sm_W.iteD h (fun hc h => ?_) (fun hc h => ?_))
    · refine sm_W.run (sm_C_mono D) 4 (G := True) (fr' := (45, [some (.ref 0), some (.int x1), some (.int x2)], [.int (I 9 3)], 0, 0)) (M' := (I, J, sm_rf 21 d)) rfl trivial ?_
      cases h
      exact sm_W.ret (sm_C_mono D) rfl hQ
    · refine sm_W.run (sm_C_mono D) 5 (G := True) (fr' := (37, [some (.ref 0), some (.int x1), some (.int x2)], [.ref 9, .ref 21], 0, 0)) (M' := (I, J, sm_rf 21 d)) rfl trivial ?_
      obtain ⟨r1, I2, hc, h⟩ := sd_q2_go h
      refine sm_W.cal (sm_C_mono D) (y := 98) (as := [.ref 21, .ref 9]) (fr' := (38, [some (.ref 0), some (.int x1), some (.int x2)], [], 0, 0)) rfl (T_War_passDay (by omega) (by decide) hc ?_)
      show sm_W sm_sh X (sm_C sm_sh X sm_P D) me_113 Q (38, [some (.ref 0), some (.int x1), some (.int x2)], [.int r1], 0, 0) (I2, J, sm_rf 21 d)
      refine sm_W.run (sm_C_mono D) 3 (G := True) (fr' := (29, [some (.ref 0), some (.int x1), some (.int (x2 + (1 : Int32)))], [], 0, 0)) (M' := (I2, J, sm_rf 21 d)) rfl trivial ?_
      exact (hk29 _ _ _ h)
  · skip
    refine sm_W.run (sm_C_mono D) 3 (G := True) (fr' := (if decide (x1 ≤ x2) = true then 41 else 32, [some (.ref 0), some (.int x1), some (.int x2)], [], 0, 0)) (M' := (I, J, sm_rf 41 d)) rfl trivial (sm_W.iteD h (fun hc h => ?_) (fun hc h => ?_))
    · refine sm_W.run (sm_C_mono D) 4 (G := True) (fr' := (45, [some (.ref 0), some (.int x1), some (.int x2)], [.int (I 9 3)], 0, 0)) (M' := (I, J, sm_rf 41 d)) rfl trivial ?_
      cases h
      exact sm_W.ret (sm_C_mono D) rfl hQ
    · refine sm_W.run (sm_C_mono D) 5 (G := True) (fr' := (37, [some (.ref 0), some (.int x1), some (.int x2)], [.ref 9, .ref 41], 0, 0)) (M' := (I, J, sm_rf 41 d)) rfl trivial ?_
      obtain ⟨r1, I2, hc, h⟩ := sd_q2_go h
      refine sm_W.cal (sm_C_mono D) (y := 98) (as := [.ref 41, .ref 9]) (fr' := (38, [some (.ref 0), some (.int x1), some (.int x2)], [], 0, 0)) rfl (T_War_passDay (by omega) (by decide) hc ?_)
      show sm_W sm_sh X (sm_C sm_sh X sm_P D) me_113 Q (38, [some (.ref 0), some (.int x1), some (.int x2)], [.int r1], 0, 0) (I2, J, sm_rf 41 d)
      refine sm_W.run (sm_C_mono D) 3 (G := True) (fr' := (29, [some (.ref 0), some (.int x1), some (.int (x2 + (1 : Int32)))], [], 0, 0)) (M' := (I2, J, sm_rf 41 d)) rfl trivial ?_
      exact (hk29 _ _ _ h)
theorem G_VM_days_29 {X : Nat × (Nat → Int32)} {t d D : Nat} {Q : sm_Q} {J : sm_MJ} {rz : Int32} {Iz : sm_MI}
    (hD : 6 ≤ D) (ht : t = 21 ∨ t = 41) (hQ : Q (.inl (some (.int rz))) (Iz, J, sm_rf t d))  : ∀ (n : Nat) (x1 : Int32) (x2 : Int32) (I : sm_MI), F_VM_days_29 t n x1 x2 I = some (rz, Iz) → sm_W sm_sh X (sm_C sm_sh X sm_P D) me_113 Q (29, [some (.ref 0), some (.int x1), some (.int x2)], [], 0, 0) (I, J, sm_rf t d) := by
  intro n
  induction n with
  | zero => intro x1 x2 I h; cases (show (none : Option (Int32 × sm_MI)) = some (rz, Iz) from h)
  | succ n ih => intro x1 x2 I h; exact G_VM_days_29B hD ht (show F_VM_days_29B t (F_VM_days_29 t n) x1 x2 I = some (rz, Iz) from h) hQ  ih
theorem G_VM_days {X : Nat × (Nat → Int32)} {t d D : Nat} {Q : sm_Q} {I : sm_MI} {J : sm_MJ} {x1 : Int32} {rz : Int32} {Iz : sm_MI}
    (hD : 6 ≤ D) (ht : t = 21 ∨ t = 41) (h : F_VM_days t x1 I = some (rz, Iz)) (hQ : Q (.inl (some (.int rz))) (Iz, J, sm_rf t d))  : sm_W sm_sh X (sm_C sm_sh X sm_P D) me_113 Q (0, [some (.ref 0), some (.int x1), none], [], 0, 0) (I, J, sm_rf t d) := by
  unfold F_VM_days at h
  rcases ht with rfl | rfl
  · skip
    refine sm_W.run (sm_C_mono D) 3 (G := True) (fr' := (if decide (x1 < (1 : Int32)) = true then 14 else 3, [some (.ref 0), some (.int x1), none], [], 0, 0)) (M' := (I, J, sm_rf 21 d)) rfl trivial (sm_W.iteD h (fun hc h => ?_) (fun hc h => ?_))
    · exact sm_W.forget (L' := [some (.ref 0), none, none]) ⟨rfl, trivial⟩ (G_VM_days_14 hD (by decide) h hQ)
    · refine sm_W.run (sm_C_mono D) 3 (G := True) (fr' := (if decide ((30 : Int32) < x1) = true then 14 else 6, [some (.ref 0), some (.int x1), none], [], 0, 0)) (M' := (I, J, sm_rf 21 d)) rfl trivial (sm_W.iteD h (fun hc h => ?_) (fun hc h => ?_))
      · exact sm_W.forget (L' := [some (.ref 0), none, none]) ⟨rfl, trivial⟩ (G_VM_days_14 hD (by decide) h hQ)
      · refine sm_W.run (sm_C_mono D) 8 (G := True) (fr' := (if decide (((I 9 3) + x1) ≤ (999 : Int32)) = true then 24 else 14, [some (.ref 0), some (.int x1), none], [], 0, 0)) (M' := (I, J, sm_rf 21 d)) rfl trivial (sm_W.iteD h (fun hc h => ?_) (fun hc h => ?_))
        · refine sm_W.run (sm_C_mono D) 2 (G := True) (fr' := (26, [some (.ref 0), some (.int x1), none], [.ref 8], 0, 0)) (M' := (I, J, sm_rf 21 d)) rfl trivial ?_
          obtain ⟨I1, hc, h⟩ := sd_q1_go h
          refine sm_W.cal (sm_C_mono D) (y := 20) (as := [.ref 8]) (fr' := (27, [some (.ref 0), some (.int x1), none], [], 0, 0)) rfl (T_Story_keepAct (by omega) hc ?_)
          show sm_W sm_sh X (sm_C sm_sh X sm_P D) me_113 Q (27, [some (.ref 0), some (.int x1), none], [], 0, 0) (I1, J, sm_rf 21 d)
          refine sm_W.run (sm_C_mono D) 2 (G := True) (fr' := (29, [some (.ref 0), some (.int x1), some (.int (0 : Int32))], [], 0, 0)) (M' := (I1, J, sm_rf 21 d)) rfl trivial ?_
          exact (G_VM_days_29 hD (by decide) hQ sd_fu _ _ _ h)
        · exact sm_W.forget (L' := [some (.ref 0), none, none]) ⟨rfl, trivial⟩ (G_VM_days_14 hD (by decide) h hQ)
  · skip
    refine sm_W.run (sm_C_mono D) 3 (G := True) (fr' := (if decide (x1 < (1 : Int32)) = true then 14 else 3, [some (.ref 0), some (.int x1), none], [], 0, 0)) (M' := (I, J, sm_rf 41 d)) rfl trivial (sm_W.iteD h (fun hc h => ?_) (fun hc h => ?_))
    · exact sm_W.forget (L' := [some (.ref 0), none, none]) ⟨rfl, trivial⟩ (G_VM_days_14 hD (by decide) h hQ)
    · refine sm_W.run (sm_C_mono D) 3 (G := True) (fr' := (if decide ((30 : Int32) < x1) = true then 14 else 6, [some (.ref 0), some (.int x1), none], [], 0, 0)) (M' := (I, J, sm_rf 41 d)) rfl trivial (sm_W.iteD h (fun hc h => ?_) (fun hc h => ?_))
      · exact sm_W.forget (L' := [some (.ref 0), none, none]) ⟨rfl, trivial⟩ (G_VM_days_14 hD (by decide) h hQ)
      · refine sm_W.run (sm_C_mono D) 8 (G := True) (fr' := (if decide (((I 9 3) + x1) ≤ (999 : Int32)) = true then 24 else 14, [some (.ref 0), some (.int x1), none], [], 0, 0)) (M' := (I, J, sm_rf 41 d)) rfl trivial (sm_W.iteD h (fun hc h => ?_) (fun hc h => ?_))
        · refine sm_W.run (sm_C_mono D) 2 (G := True) (fr' := (26, [some (.ref 0), some (.int x1), none], [.ref 8], 0, 0)) (M' := (I, J, sm_rf 41 d)) rfl trivial ?_
          obtain ⟨I1, hc, h⟩ := sd_q1_go h
          refine sm_W.cal (sm_C_mono D) (y := 20) (as := [.ref 8]) (fr' := (27, [some (.ref 0), some (.int x1), none], [], 0, 0)) rfl (T_Story_keepAct (by omega) hc ?_)
          show sm_W sm_sh X (sm_C sm_sh X sm_P D) me_113 Q (27, [some (.ref 0), some (.int x1), none], [], 0, 0) (I1, J, sm_rf 41 d)
          refine sm_W.run (sm_C_mono D) 2 (G := True) (fr' := (29, [some (.ref 0), some (.int x1), some (.int (0 : Int32))], [], 0, 0)) (M' := (I1, J, sm_rf 41 d)) rfl trivial ?_
          exact (G_VM_days_29 hD (by decide) hQ sd_fu _ _ _ h)
        · exact sm_W.forget (L' := [some (.ref 0), none, none]) ⟨rfl, trivial⟩ (G_VM_days_14 hD (by decide) h hQ)
theorem T_VM_days {X : Nat × (Nat → Int32)} {t d D : Nat} {Q : sm_Q} {I : sm_MI} {J : sm_MJ} {x1 : Int32} {rz : Int32} {Iz : sm_MI}
    (hD : 7 ≤ D) (ht : t = 21 ∨ t = 41) (h : F_VM_days t x1 I = some (rz, Iz)) (hQ : Q (.inl (some (.int rz))) (Iz, J, sm_rf t d)) : sm_C sm_sh X sm_P D 113 [.ref 0, .int x1] (I, J, sm_rf t d) Q := by
  cases D with
  | zero => omega
  | succ D => exact sm_C.of (me := me_113) (L := [some (.ref 0), some (.int x1), none]) rfl rfl rfl (sm_W.forget (L' := [some (.ref 0), some (.int x1), none]) ⟨rfl, ⟨rfl, trivial⟩⟩ (G_VM_days (by omega) ht h hQ))
-- 118 VM_mayAct
noncomputable def F_VM_mayAct (x1 : Int32) (I : sm_MI) : Option (Int32 × sm_MI) :=
  if x1 = 0 then
    sd_gu (sm_in (1 : Int32) 3 = true) <|
    sd_gu (sm_in (1 : Int32) 3 = true) <|
    sd_lt (sd_up I 1 1 ((I 1 1) + (1 : Int32))) fun I3 =>
    some ((vp_nar .boolean x1), I3)
  else
    sd_q1 (F_Story_keepAct I) fun I4 =>
    some ((vp_nar .boolean x1), I4)
theorem G_VM_mayAct {X : Nat × (Nat → Int32)} {t d D : Nat} {Q : sm_Q} {I : sm_MI} {J : sm_MJ} {x1 : Int32} {rz : Int32} {Iz : sm_MI}
    (hD : 2 ≤ D) (h : F_VM_mayAct x1 I = some (rz, Iz)) (hQ : Q (.inl (some (.int rz))) (Iz, J, sm_rf t d))  : sm_W sm_sh X (sm_C sm_sh X sm_P D) me_118 Q (0, [some (.ref 0), some (.int x1)], [], 0, 0) (I, J, sm_rf t d) := by
  unfold F_VM_mayAct at h
  refine sm_W.run (sm_C_mono D) 2 (G := True) (fr' := (if decide (x1 = 0) = true then 6 else 2, [some (.ref 0), some (.int x1)], [], 0, 0)) (M' := (I, J, sm_rf t d)) rfl trivial (sm_W.iteD h (fun hc h => ?_) (fun hc h => ?_))
  · obtain ⟨g1, h⟩ := sd_gu_go h
    obtain ⟨g2, h⟩ := sd_gu_go h
    refine sm_W.runL (sm_C_mono D) 8 (G := sm_in (1 : Int32) 3 = true ∧ sm_in (1 : Int32) 3 = true ∧ True) (e := (sd_up I 1 1 ((I 1 1) + (1 : Int32)))) (fr' := fun _ => (14, [some (.ref 0), some (.int x1)], [], 0, 0)) (M' := fun I3 => (I3, J, sm_rf t d)) rfl h ⟨g1, g2, trivial⟩ (fun I3 h => ?_)
    refine sm_W.run (sm_C_mono D) 1 (G := True) (fr' := (15, [some (.ref 0), some (.int x1)], [.int x1], 0, 0)) (M' := (I3, J, sm_rf t d)) rfl trivial ?_
    cases h
    exact sm_W.ret (sm_C_mono D) rfl hQ
  · refine sm_W.run (sm_C_mono D) 2 (G := True) (fr' := (4, [some (.ref 0), some (.int x1)], [.ref 8], 0, 0)) (M' := (I, J, sm_rf t d)) rfl trivial ?_
    obtain ⟨I4, hc, h⟩ := sd_q1_go h
    refine sm_W.cal (sm_C_mono D) (y := 20) (as := [.ref 8]) (fr' := (5, [some (.ref 0), some (.int x1)], [], 0, 0)) rfl (T_Story_keepAct (by omega) hc ?_)
    show sm_W sm_sh X (sm_C sm_sh X sm_P D) me_118 Q (5, [some (.ref 0), some (.int x1)], [], 0, 0) (I4, J, sm_rf t d)
    refine sm_W.run (sm_C_mono D) 2 (G := True) (fr' := (15, [some (.ref 0), some (.int x1)], [.int x1], 0, 0)) (M' := (I4, J, sm_rf t d)) rfl trivial ?_
    cases h
    exact sm_W.ret (sm_C_mono D) rfl hQ
theorem T_VM_mayAct {X : Nat × (Nat → Int32)} {t d D : Nat} {Q : sm_Q} {I : sm_MI} {J : sm_MJ} {x1 : Int32} {rz : Int32} {Iz : sm_MI}
    (hD : 3 ≤ D) (h : F_VM_mayAct x1 I = some (rz, Iz)) (hQ : Q (.inl (some (.int rz))) (Iz, J, sm_rf t d)) : sm_C sm_sh X sm_P D 118 [.ref 0, .int x1] (I, J, sm_rf t d) Q := by
  cases D with
  | zero => omega
  | succ D => exact sm_C.of (me := me_118) (L := [some (.ref 0), some (.int x1)]) rfl rfl rfl (sm_W.forget (L' := [some (.ref 0), some (.int x1)]) ⟨rfl, ⟨rfl, trivial⟩⟩ (G_VM_mayAct (by omega) h hQ))
-- 114 VM_fall
noncomputable def F_VM_fall_18 (t : Nat) (x2 : Int32) (s1 : Int32) (I : sm_MI) : Option ((Int32 ⊕ Nat) × sm_MI) :=
  sd_q2 (F_VM_mayAct s1 I) fun r1 I2 =>
  if ¬ r1 = 0 then
    sd_q1 (F_State_fell 9 x2 I2) fun I3 =>
    some (.inl (1 : Int32), I3)
  else
    some (.inl (0 : Int32), I2)
noncomputable def F_VM_fall (t : Nat) (x1 : Int32) (I : sm_MI) : Option ((Int32 ⊕ Nat) × sm_MI) :=
  sd_t1 (F_VM_checkSinger t x1 I) (fun r1 =>
    sd_lt ((1 : Int32) <<< (x1 &&& 31)) fun a2 =>
    if ((I 9 0) &&& a2) = 0 then
      F_VM_fall_18 t a2 (0 : Int32) I
    else
      F_VM_fall_18 t a2 (1 : Int32) I)
    (fun r1 => some (.inr r1, I))
theorem G_VM_fall_18 {X : Nat × (Nat → Int32)} {t d D : Nat} {Q : sm_Q} {I : sm_MI} {J : sm_MJ} {x2 : Int32} {s1 : Int32} {rz : (Int32 ⊕ Nat)} {Iz : sm_MI}
    (hD : 3 ≤ D) (ht : t = 21 ∨ t = 41) (h : F_VM_fall_18 t x2 s1 I = some (rz, Iz)) (hQ1 : ∀ v, rz = .inl v → Q (.inl (some (.int v))) (Iz, J, sm_rf t d)) (hQ2 : ∀ E, rz = .inr E → Q (.inr E) (Iz, J, sm_rf t d))  : sm_W sm_sh X (sm_C sm_sh X sm_P D) me_114 Q (18, [some (.ref 0), none, some (.int x2)], [.int s1, .ref 0], 1, 6) (I, J, sm_rf t d) := by
  unfold F_VM_fall_18 at h
  rcases ht with rfl | rfl
  · skip
    obtain ⟨r1, I2, hc, h⟩ := sd_q2_go h
    refine sm_W.cal (sm_C_mono D) (y := 118) (as := [.ref 0, .int s1]) (fr' := (19, [some (.ref 0), none, some (.int x2)], [], 1, 6)) rfl (T_VM_mayAct (by omega) hc ?_)
    show sm_W sm_sh X (sm_C sm_sh X sm_P D) me_114 Q (19, [some (.ref 0), none, some (.int x2)], [.int r1], 1, 6) (I2, J, sm_rf 21 d)
    refine sm_W.run (sm_C_mono D) 1 (G := True) (fr' := (if decide (¬ r1 = 0) = true then 22 else 20, [some (.ref 0), none, some (.int x2)], [], 1, 6)) (M' := (I2, J, sm_rf 21 d)) rfl trivial (sm_W.iteD h (fun hc h => ?_) (fun hc h => ?_))
    · refine sm_W.run (sm_C_mono D) 4 (G := True) (fr' := (26, [some (.ref 0), none, some (.int x2)], [.int x2, .ref 9], 1, 6)) (M' := (I2, J, sm_rf 21 d)) rfl trivial ?_
      obtain ⟨I3, hc, h⟩ := sd_q1_go h
      refine sm_W.cal (sm_C_mono D) (y := 62) (as := [.ref 9, .int x2]) (fr' := (27, [some (.ref 0), none, some (.int x2)], [], 1, 6)) rfl (T_State_fell (by omega) (by decide) hc ?_)
      show sm_W sm_sh X (sm_C sm_sh X sm_P D) me_114 Q (27, [some (.ref 0), none, some (.int x2)], [], 1, 6) (I3, J, sm_rf 21 d)
      refine sm_W.run (sm_C_mono D) 1 (G := True) (fr' := (28, [some (.ref 0), none, some (.int x2)], [.int (1 : Int32)], 1, 6)) (M' := (I3, J, sm_rf 21 d)) rfl trivial ?_
      cases h
      exact sm_W.ret (sm_C_mono D) rfl (hQ1 _ rfl)
    · refine sm_W.run (sm_C_mono D) 1 (G := True) (fr' := (21, [some (.ref 0), none, some (.int x2)], [.int (0 : Int32)], 1, 6)) (M' := (I2, J, sm_rf 21 d)) rfl trivial ?_
      cases h
      exact sm_W.ret (sm_C_mono D) rfl (hQ1 _ rfl)
  · skip
    obtain ⟨r1, I2, hc, h⟩ := sd_q2_go h
    refine sm_W.cal (sm_C_mono D) (y := 118) (as := [.ref 0, .int s1]) (fr' := (19, [some (.ref 0), none, some (.int x2)], [], 1, 6)) rfl (T_VM_mayAct (by omega) hc ?_)
    show sm_W sm_sh X (sm_C sm_sh X sm_P D) me_114 Q (19, [some (.ref 0), none, some (.int x2)], [.int r1], 1, 6) (I2, J, sm_rf 41 d)
    refine sm_W.run (sm_C_mono D) 1 (G := True) (fr' := (if decide (¬ r1 = 0) = true then 22 else 20, [some (.ref 0), none, some (.int x2)], [], 1, 6)) (M' := (I2, J, sm_rf 41 d)) rfl trivial (sm_W.iteD h (fun hc h => ?_) (fun hc h => ?_))
    · refine sm_W.run (sm_C_mono D) 4 (G := True) (fr' := (26, [some (.ref 0), none, some (.int x2)], [.int x2, .ref 9], 1, 6)) (M' := (I2, J, sm_rf 41 d)) rfl trivial ?_
      obtain ⟨I3, hc, h⟩ := sd_q1_go h
      refine sm_W.cal (sm_C_mono D) (y := 62) (as := [.ref 9, .int x2]) (fr' := (27, [some (.ref 0), none, some (.int x2)], [], 1, 6)) rfl (T_State_fell (by omega) (by decide) hc ?_)
      show sm_W sm_sh X (sm_C sm_sh X sm_P D) me_114 Q (27, [some (.ref 0), none, some (.int x2)], [], 1, 6) (I3, J, sm_rf 41 d)
      refine sm_W.run (sm_C_mono D) 1 (G := True) (fr' := (28, [some (.ref 0), none, some (.int x2)], [.int (1 : Int32)], 1, 6)) (M' := (I3, J, sm_rf 41 d)) rfl trivial ?_
      cases h
      exact sm_W.ret (sm_C_mono D) rfl (hQ1 _ rfl)
    · refine sm_W.run (sm_C_mono D) 1 (G := True) (fr' := (21, [some (.ref 0), none, some (.int x2)], [.int (0 : Int32)], 1, 6)) (M' := (I2, J, sm_rf 41 d)) rfl trivial ?_
      cases h
      exact sm_W.ret (sm_C_mono D) rfl (hQ1 _ rfl)
theorem G_VM_fall {X : Nat × (Nat → Int32)} {t d D : Nat} {Q : sm_Q} {I : sm_MI} {J : sm_MJ} {x1 : Int32} {rz : (Int32 ⊕ Nat)} {Iz : sm_MI}
    (hD : 3 ≤ D) (ht : t = 21 ∨ t = 41) (h : F_VM_fall t x1 I = some (rz, Iz)) (hQ1 : ∀ v, rz = .inl v → Q (.inl (some (.int v))) (Iz, J, sm_rf t d)) (hQ2 : ∀ E, rz = .inr E → Q (.inr E) (Iz, J, sm_rf t d))  : sm_W sm_sh X (sm_C sm_sh X sm_P D) me_114 Q (0, [some (.ref 0), some (.int x1), none], [], 0, 0) (I, J, sm_rf t d) := by
  unfold F_VM_fall at h
  rcases ht with rfl | rfl
  · skip
    refine sm_W.run (sm_C_mono D) 2 (G := True) (fr' := (2, [some (.ref 0), some (.int x1), none], [.int x1, .ref 0], 0, 0)) (M' := (I, J, sm_rf 21 d)) rfl trivial ?_
    rcases sd_t1_go h with ⟨r1, hc, h⟩ | ⟨r1, hc, h⟩
    · refine sm_W.cal (sm_C_mono D) (y := 151) (as := [.ref 0, .int x1]) (fr' := (3, [some (.ref 0), some (.int x1), none], [], 1, 6)) rfl (T_VM_checkSinger (by omega) (by decide) hc (fun _ e => ?_) (fun _ e => by cases e))
      cases e
      show sm_W sm_sh X (sm_C sm_sh X sm_P D) me_114 Q (3, [some (.ref 0), some (.int x1), none], [], 1, 6) (I, J, sm_rf 21 d)
      refine sm_W.runL (sm_C_mono D) 4 (G := True) (e := ((1 : Int32) <<< (x1 &&& 31))) (fr' := fun a2 => (7, [some (.ref 0), some (.int x1), some (.int a2)], [], 1, 6)) (M' := fun _ => (I, J, sm_rf 21 d)) rfl h trivial (fun a2 h => ?_)
      refine sm_W.run (sm_C_mono D) 8 (G := True) (fr' := (if decide (((I 9 0) &&& a2) = 0) = true then 17 else 15, [some (.ref 0), some (.int x1), some (.int a2)], [.ref 0], 1, 6)) (M' := (I, J, sm_rf 21 d)) rfl trivial (sm_W.iteD h (fun hc h => ?_) (fun hc h => ?_))
      · refine sm_W.run (sm_C_mono D) 1 (G := True) (fr' := (18, [some (.ref 0), some (.int x1), some (.int a2)], [.int (0 : Int32), .ref 0], 1, 6)) (M' := (I, J, sm_rf 21 d)) rfl trivial ?_
        exact sm_W.forget (L' := [some (.ref 0), none, some (.int a2)]) ⟨rfl, ⟨rfl, trivial⟩⟩ (G_VM_fall_18 hD (by decide) h hQ1 hQ2)
      · refine sm_W.run (sm_C_mono D) 2 (G := True) (fr' := (18, [some (.ref 0), some (.int x1), some (.int a2)], [.int (1 : Int32), .ref 0], 1, 6)) (M' := (I, J, sm_rf 21 d)) rfl trivial ?_
        exact sm_W.forget (L' := [some (.ref 0), none, some (.int a2)]) ⟨rfl, ⟨rfl, trivial⟩⟩ (G_VM_fall_18 hD (by decide) h hQ1 hQ2)
    · refine sm_W.cal (sm_C_mono D) (y := 151) (as := [.ref 0, .int x1]) (fr' := (3, [some (.ref 0), some (.int x1), none], [], 1, 6)) rfl (T_VM_checkSinger (by omega) (by decide) hc (fun _ e => by cases e) (fun _ e => ?_))
      cases e
      cases h
      exact ⟨rfl, hQ2 _ rfl⟩
  · skip
    refine sm_W.run (sm_C_mono D) 2 (G := True) (fr' := (2, [some (.ref 0), some (.int x1), none], [.int x1, .ref 0], 0, 0)) (M' := (I, J, sm_rf 41 d)) rfl trivial ?_
    rcases sd_t1_go h with ⟨r1, hc, h⟩ | ⟨r1, hc, h⟩
    · refine sm_W.cal (sm_C_mono D) (y := 151) (as := [.ref 0, .int x1]) (fr' := (3, [some (.ref 0), some (.int x1), none], [], 1, 6)) rfl (T_VM_checkSinger (by omega) (by decide) hc (fun _ e => ?_) (fun _ e => by cases e))
      cases e
      show sm_W sm_sh X (sm_C sm_sh X sm_P D) me_114 Q (3, [some (.ref 0), some (.int x1), none], [], 1, 6) (I, J, sm_rf 41 d)
      refine sm_W.runL (sm_C_mono D) 4 (G := True) (e := ((1 : Int32) <<< (x1 &&& 31))) (fr' := fun a2 => (7, [some (.ref 0), some (.int x1), some (.int a2)], [], 1, 6)) (M' := fun _ => (I, J, sm_rf 41 d)) rfl h trivial (fun a2 h => ?_)
      refine sm_W.run (sm_C_mono D) 8 (G := True) (fr' := (if decide (((I 9 0) &&& a2) = 0) = true then 17 else 15, [some (.ref 0), some (.int x1), some (.int a2)], [.ref 0], 1, 6)) (M' := (I, J, sm_rf 41 d)) rfl trivial (sm_W.iteD h (fun hc h => ?_) (fun hc h => ?_))
      · refine sm_W.run (sm_C_mono D) 1 (G := True) (fr' := (18, [some (.ref 0), some (.int x1), some (.int a2)], [.int (0 : Int32), .ref 0], 1, 6)) (M' := (I, J, sm_rf 41 d)) rfl trivial ?_
        exact sm_W.forget (L' := [some (.ref 0), none, some (.int a2)]) ⟨rfl, ⟨rfl, trivial⟩⟩ (G_VM_fall_18 hD (by decide) h hQ1 hQ2)
      · refine sm_W.run (sm_C_mono D) 2 (G := True) (fr' := (18, [some (.ref 0), some (.int x1), some (.int a2)], [.int (1 : Int32), .ref 0], 1, 6)) (M' := (I, J, sm_rf 41 d)) rfl trivial ?_
        exact sm_W.forget (L' := [some (.ref 0), none, some (.int a2)]) ⟨rfl, ⟨rfl, trivial⟩⟩ (G_VM_fall_18 hD (by decide) h hQ1 hQ2)
    · refine sm_W.cal (sm_C_mono D) (y := 151) (as := [.ref 0, .int x1]) (fr' := (3, [some (.ref 0), some (.int x1), none], [], 1, 6)) rfl (T_VM_checkSinger (by omega) (by decide) hc (fun _ e => by cases e) (fun _ e => ?_))
      cases e
      cases h
      exact ⟨rfl, hQ2 _ rfl⟩
theorem T_VM_fall {X : Nat × (Nat → Int32)} {t d D : Nat} {Q : sm_Q} {I : sm_MI} {J : sm_MJ} {x1 : Int32} {rz : (Int32 ⊕ Nat)} {Iz : sm_MI}
    (hD : 4 ≤ D) (ht : t = 21 ∨ t = 41) (h : F_VM_fall t x1 I = some (rz, Iz)) (hQ1 : ∀ v, rz = .inl v → Q (.inl (some (.int v))) (Iz, J, sm_rf t d)) (hQ2 : ∀ E, rz = .inr E → Q (.inr E) (Iz, J, sm_rf t d)) : sm_C sm_sh X sm_P D 114 [.ref 0, .int x1] (I, J, sm_rf t d) Q := by
  cases D with
  | zero => omega
  | succ D => exact sm_C.of (me := me_114) (L := [some (.ref 0), some (.int x1), none]) rfl rfl rfl (sm_W.forget (L' := [some (.ref 0), some (.int x1), none]) ⟨rfl, ⟨rfl, trivial⟩⟩ (G_VM_fall (by omega) ht h hQ1 hQ2))
-- 115 VM_catches
noncomputable def F_VM_catches_18 (t : Nat) (x2 : Int32) (s1 : Int32) (I : sm_MI) : Option ((Int32 ⊕ Nat) × sm_MI) :=
  sd_q2 (F_VM_mayAct s1 I) fun r1 I2 =>
  if ¬ r1 = 0 then
    sd_q1 (F_State_seize 9 x2 I2) fun I3 =>
    some (.inl (1 : Int32), I3)
  else
    some (.inl (0 : Int32), I2)
noncomputable def F_VM_catches (t : Nat) (x1 : Int32) (I : sm_MI) : Option ((Int32 ⊕ Nat) × sm_MI) :=
  sd_t1 (F_VM_checkSinger t x1 I) (fun r1 =>
    sd_lt ((1 : Int32) <<< (x1 &&& 31)) fun a2 =>
    if ((I 9 0) &&& a2) = 0 then
      F_VM_catches_18 t a2 (0 : Int32) I
    else
      F_VM_catches_18 t a2 (1 : Int32) I)
    (fun r1 => some (.inr r1, I))
theorem G_VM_catches_18 {X : Nat × (Nat → Int32)} {t d D : Nat} {Q : sm_Q} {I : sm_MI} {J : sm_MJ} {x2 : Int32} {s1 : Int32} {rz : (Int32 ⊕ Nat)} {Iz : sm_MI}
    (hD : 3 ≤ D) (ht : t = 21 ∨ t = 41) (h : F_VM_catches_18 t x2 s1 I = some (rz, Iz)) (hQ1 : ∀ v, rz = .inl v → Q (.inl (some (.int v))) (Iz, J, sm_rf t d)) (hQ2 : ∀ E, rz = .inr E → Q (.inr E) (Iz, J, sm_rf t d))  : sm_W sm_sh X (sm_C sm_sh X sm_P D) me_115 Q (18, [some (.ref 0), none, some (.int x2)], [.int s1, .ref 0], 1, 6) (I, J, sm_rf t d) := by
  unfold F_VM_catches_18 at h
  rcases ht with rfl | rfl
  · skip
    obtain ⟨r1, I2, hc, h⟩ := sd_q2_go h
    refine sm_W.cal (sm_C_mono D) (y := 118) (as := [.ref 0, .int s1]) (fr' := (19, [some (.ref 0), none, some (.int x2)], [], 1, 6)) rfl (T_VM_mayAct (by omega) hc ?_)
    show sm_W sm_sh X (sm_C sm_sh X sm_P D) me_115 Q (19, [some (.ref 0), none, some (.int x2)], [.int r1], 1, 6) (I2, J, sm_rf 21 d)
    refine sm_W.run (sm_C_mono D) 1 (G := True) (fr' := (if decide (¬ r1 = 0) = true then 22 else 20, [some (.ref 0), none, some (.int x2)], [], 1, 6)) (M' := (I2, J, sm_rf 21 d)) rfl trivial (sm_W.iteD h (fun hc h => ?_) (fun hc h => ?_))
    · refine sm_W.run (sm_C_mono D) 4 (G := True) (fr' := (26, [some (.ref 0), none, some (.int x2)], [.int x2, .ref 9], 1, 6)) (M' := (I2, J, sm_rf 21 d)) rfl trivial ?_
      obtain ⟨I3, hc, h⟩ := sd_q1_go h
      refine sm_W.cal (sm_C_mono D) (y := 63) (as := [.ref 9, .int x2]) (fr' := (27, [some (.ref 0), none, some (.int x2)], [], 1, 6)) rfl (T_State_seize (by omega) (by decide) hc ?_)
      show sm_W sm_sh X (sm_C sm_sh X sm_P D) me_115 Q (27, [some (.ref 0), none, some (.int x2)], [], 1, 6) (I3, J, sm_rf 21 d)
      refine sm_W.run (sm_C_mono D) 1 (G := True) (fr' := (28, [some (.ref 0), none, some (.int x2)], [.int (1 : Int32)], 1, 6)) (M' := (I3, J, sm_rf 21 d)) rfl trivial ?_
      cases h
      exact sm_W.ret (sm_C_mono D) rfl (hQ1 _ rfl)
    · refine sm_W.run (sm_C_mono D) 1 (G := True) (fr' := (21, [some (.ref 0), none, some (.int x2)], [.int (0 : Int32)], 1, 6)) (M' := (I2, J, sm_rf 21 d)) rfl trivial ?_
      cases h
      exact sm_W.ret (sm_C_mono D) rfl (hQ1 _ rfl)
  · skip
    obtain ⟨r1, I2, hc, h⟩ := sd_q2_go h
    refine sm_W.cal (sm_C_mono D) (y := 118) (as := [.ref 0, .int s1]) (fr' := (19, [some (.ref 0), none, some (.int x2)], [], 1, 6)) rfl (T_VM_mayAct (by omega) hc ?_)
    show sm_W sm_sh X (sm_C sm_sh X sm_P D) me_115 Q (19, [some (.ref 0), none, some (.int x2)], [.int r1], 1, 6) (I2, J, sm_rf 41 d)
    refine sm_W.run (sm_C_mono D) 1 (G := True) (fr' := (if decide (¬ r1 = 0) = true then 22 else 20, [some (.ref 0), none, some (.int x2)], [], 1, 6)) (M' := (I2, J, sm_rf 41 d)) rfl trivial (sm_W.iteD h (fun hc h => ?_) (fun hc h => ?_))
    · refine sm_W.run (sm_C_mono D) 4 (G := True) (fr' := (26, [some (.ref 0), none, some (.int x2)], [.int x2, .ref 9], 1, 6)) (M' := (I2, J, sm_rf 41 d)) rfl trivial ?_
      obtain ⟨I3, hc, h⟩ := sd_q1_go h
      refine sm_W.cal (sm_C_mono D) (y := 63) (as := [.ref 9, .int x2]) (fr' := (27, [some (.ref 0), none, some (.int x2)], [], 1, 6)) rfl (T_State_seize (by omega) (by decide) hc ?_)
      show sm_W sm_sh X (sm_C sm_sh X sm_P D) me_115 Q (27, [some (.ref 0), none, some (.int x2)], [], 1, 6) (I3, J, sm_rf 41 d)
      refine sm_W.run (sm_C_mono D) 1 (G := True) (fr' := (28, [some (.ref 0), none, some (.int x2)], [.int (1 : Int32)], 1, 6)) (M' := (I3, J, sm_rf 41 d)) rfl trivial ?_
      cases h
      exact sm_W.ret (sm_C_mono D) rfl (hQ1 _ rfl)
    · refine sm_W.run (sm_C_mono D) 1 (G := True) (fr' := (21, [some (.ref 0), none, some (.int x2)], [.int (0 : Int32)], 1, 6)) (M' := (I2, J, sm_rf 41 d)) rfl trivial ?_
      cases h
      exact sm_W.ret (sm_C_mono D) rfl (hQ1 _ rfl)
theorem G_VM_catches {X : Nat × (Nat → Int32)} {t d D : Nat} {Q : sm_Q} {I : sm_MI} {J : sm_MJ} {x1 : Int32} {rz : (Int32 ⊕ Nat)} {Iz : sm_MI}
    (hD : 3 ≤ D) (ht : t = 21 ∨ t = 41) (h : F_VM_catches t x1 I = some (rz, Iz)) (hQ1 : ∀ v, rz = .inl v → Q (.inl (some (.int v))) (Iz, J, sm_rf t d)) (hQ2 : ∀ E, rz = .inr E → Q (.inr E) (Iz, J, sm_rf t d))  : sm_W sm_sh X (sm_C sm_sh X sm_P D) me_115 Q (0, [some (.ref 0), some (.int x1), none], [], 0, 0) (I, J, sm_rf t d) := by
  unfold F_VM_catches at h
  rcases ht with rfl | rfl
  · skip
    refine sm_W.run (sm_C_mono D) 2 (G := True) (fr' := (2, [some (.ref 0), some (.int x1), none], [.int x1, .ref 0], 0, 0)) (M' := (I, J, sm_rf 21 d)) rfl trivial ?_
    rcases sd_t1_go h with ⟨r1, hc, h⟩ | ⟨r1, hc, h⟩
    · refine sm_W.cal (sm_C_mono D) (y := 151) (as := [.ref 0, .int x1]) (fr' := (3, [some (.ref 0), some (.int x1), none], [], 1, 6)) rfl (T_VM_checkSinger (by omega) (by decide) hc (fun _ e => ?_) (fun _ e => by cases e))
      cases e
      show sm_W sm_sh X (sm_C sm_sh X sm_P D) me_115 Q (3, [some (.ref 0), some (.int x1), none], [], 1, 6) (I, J, sm_rf 21 d)
      refine sm_W.runL (sm_C_mono D) 4 (G := True) (e := ((1 : Int32) <<< (x1 &&& 31))) (fr' := fun a2 => (7, [some (.ref 0), some (.int x1), some (.int a2)], [], 1, 6)) (M' := fun _ => (I, J, sm_rf 21 d)) rfl h trivial (fun a2 h => ?_)
      refine sm_W.run (sm_C_mono D) 8 (G := True) (fr' := (if decide (((I 9 0) &&& a2) = 0) = true then 17 else 15, [some (.ref 0), some (.int x1), some (.int a2)], [.ref 0], 1, 6)) (M' := (I, J, sm_rf 21 d)) rfl trivial (sm_W.iteD h (fun hc h => ?_) (fun hc h => ?_))
      · refine sm_W.run (sm_C_mono D) 1 (G := True) (fr' := (18, [some (.ref 0), some (.int x1), some (.int a2)], [.int (0 : Int32), .ref 0], 1, 6)) (M' := (I, J, sm_rf 21 d)) rfl trivial ?_
        exact sm_W.forget (L' := [some (.ref 0), none, some (.int a2)]) ⟨rfl, ⟨rfl, trivial⟩⟩ (G_VM_catches_18 hD (by decide) h hQ1 hQ2)
      · refine sm_W.run (sm_C_mono D) 2 (G := True) (fr' := (18, [some (.ref 0), some (.int x1), some (.int a2)], [.int (1 : Int32), .ref 0], 1, 6)) (M' := (I, J, sm_rf 21 d)) rfl trivial ?_
        exact sm_W.forget (L' := [some (.ref 0), none, some (.int a2)]) ⟨rfl, ⟨rfl, trivial⟩⟩ (G_VM_catches_18 hD (by decide) h hQ1 hQ2)
    · refine sm_W.cal (sm_C_mono D) (y := 151) (as := [.ref 0, .int x1]) (fr' := (3, [some (.ref 0), some (.int x1), none], [], 1, 6)) rfl (T_VM_checkSinger (by omega) (by decide) hc (fun _ e => by cases e) (fun _ e => ?_))
      cases e
      cases h
      exact ⟨rfl, hQ2 _ rfl⟩
  · skip
    refine sm_W.run (sm_C_mono D) 2 (G := True) (fr' := (2, [some (.ref 0), some (.int x1), none], [.int x1, .ref 0], 0, 0)) (M' := (I, J, sm_rf 41 d)) rfl trivial ?_
    rcases sd_t1_go h with ⟨r1, hc, h⟩ | ⟨r1, hc, h⟩
    · refine sm_W.cal (sm_C_mono D) (y := 151) (as := [.ref 0, .int x1]) (fr' := (3, [some (.ref 0), some (.int x1), none], [], 1, 6)) rfl (T_VM_checkSinger (by omega) (by decide) hc (fun _ e => ?_) (fun _ e => by cases e))
      cases e
      show sm_W sm_sh X (sm_C sm_sh X sm_P D) me_115 Q (3, [some (.ref 0), some (.int x1), none], [], 1, 6) (I, J, sm_rf 41 d)
      refine sm_W.runL (sm_C_mono D) 4 (G := True) (e := ((1 : Int32) <<< (x1 &&& 31))) (fr' := fun a2 => (7, [some (.ref 0), some (.int x1), some (.int a2)], [], 1, 6)) (M' := fun _ => (I, J, sm_rf 41 d)) rfl h trivial (fun a2 h => ?_)
      refine sm_W.run (sm_C_mono D) 8 (G := True) (fr' := (if decide (((I 9 0) &&& a2) = 0) = true then 17 else 15, [some (.ref 0), some (.int x1), some (.int a2)], [.ref 0], 1, 6)) (M' := (I, J, sm_rf 41 d)) rfl trivial (sm_W.iteD h (fun hc h => ?_) (fun hc h => ?_))
      · refine sm_W.run (sm_C_mono D) 1 (G := True) (fr' := (18, [some (.ref 0), some (.int x1), some (.int a2)], [.int (0 : Int32), .ref 0], 1, 6)) (M' := (I, J, sm_rf 41 d)) rfl trivial ?_
        exact sm_W.forget (L' := [some (.ref 0), none, some (.int a2)]) ⟨rfl, ⟨rfl, trivial⟩⟩ (G_VM_catches_18 hD (by decide) h hQ1 hQ2)
      · refine sm_W.run (sm_C_mono D) 2 (G := True) (fr' := (18, [some (.ref 0), some (.int x1), some (.int a2)], [.int (1 : Int32), .ref 0], 1, 6)) (M' := (I, J, sm_rf 41 d)) rfl trivial ?_
        exact sm_W.forget (L' := [some (.ref 0), none, some (.int a2)]) ⟨rfl, ⟨rfl, trivial⟩⟩ (G_VM_catches_18 hD (by decide) h hQ1 hQ2)
    · refine sm_W.cal (sm_C_mono D) (y := 151) (as := [.ref 0, .int x1]) (fr' := (3, [some (.ref 0), some (.int x1), none], [], 1, 6)) rfl (T_VM_checkSinger (by omega) (by decide) hc (fun _ e => by cases e) (fun _ e => ?_))
      cases e
      cases h
      exact ⟨rfl, hQ2 _ rfl⟩
theorem T_VM_catches {X : Nat × (Nat → Int32)} {t d D : Nat} {Q : sm_Q} {I : sm_MI} {J : sm_MJ} {x1 : Int32} {rz : (Int32 ⊕ Nat)} {Iz : sm_MI}
    (hD : 4 ≤ D) (ht : t = 21 ∨ t = 41) (h : F_VM_catches t x1 I = some (rz, Iz)) (hQ1 : ∀ v, rz = .inl v → Q (.inl (some (.int v))) (Iz, J, sm_rf t d)) (hQ2 : ∀ E, rz = .inr E → Q (.inr E) (Iz, J, sm_rf t d)) : sm_C sm_sh X sm_P D 115 [.ref 0, .int x1] (I, J, sm_rf t d) Q := by
  cases D with
  | zero => omega
  | succ D => exact sm_C.of (me := me_115) (L := [some (.ref 0), some (.int x1), none]) rfl rfl rfl (sm_W.forget (L' := [some (.ref 0), some (.int x1), none]) ⟨rfl, ⟨rfl, trivial⟩⟩ (G_VM_catches (by omega) ht h hQ1 hQ2))
-- 116 VM_release
noncomputable def F_VM_release_18 (t : Nat) (x2 : Int32) (s1 : Int32) (I : sm_MI) : Option ((Int32 ⊕ Nat) × sm_MI) :=
  sd_q2 (F_VM_mayAct s1 I) fun r1 I2 =>
  if ¬ r1 = 0 then
    sd_q1 (F_State_letGo 9 x2 I2) fun I3 =>
    some (.inl (1 : Int32), I3)
  else
    some (.inl (0 : Int32), I2)
noncomputable def F_VM_release (t : Nat) (x1 : Int32) (I : sm_MI) : Option ((Int32 ⊕ Nat) × sm_MI) :=
  sd_t1 (F_VM_checkSinger t x1 I) (fun r1 =>
    sd_lt ((1 : Int32) <<< (x1 &&& 31)) fun a2 =>
    if ((I 9 1) &&& a2) = 0 then
      F_VM_release_18 t a2 (0 : Int32) I
    else
      F_VM_release_18 t a2 (1 : Int32) I)
    (fun r1 => some (.inr r1, I))
theorem G_VM_release_18 {X : Nat × (Nat → Int32)} {t d D : Nat} {Q : sm_Q} {I : sm_MI} {J : sm_MJ} {x2 : Int32} {s1 : Int32} {rz : (Int32 ⊕ Nat)} {Iz : sm_MI}
    (hD : 3 ≤ D) (ht : t = 21 ∨ t = 41) (h : F_VM_release_18 t x2 s1 I = some (rz, Iz)) (hQ1 : ∀ v, rz = .inl v → Q (.inl (some (.int v))) (Iz, J, sm_rf t d)) (hQ2 : ∀ E, rz = .inr E → Q (.inr E) (Iz, J, sm_rf t d))  : sm_W sm_sh X (sm_C sm_sh X sm_P D) me_116 Q (18, [some (.ref 0), none, some (.int x2)], [.int s1, .ref 0], 1, 6) (I, J, sm_rf t d) := by
  unfold F_VM_release_18 at h
  rcases ht with rfl | rfl
  · skip
    obtain ⟨r1, I2, hc, h⟩ := sd_q2_go h
    refine sm_W.cal (sm_C_mono D) (y := 118) (as := [.ref 0, .int s1]) (fr' := (19, [some (.ref 0), none, some (.int x2)], [], 1, 6)) rfl (T_VM_mayAct (by omega) hc ?_)
    show sm_W sm_sh X (sm_C sm_sh X sm_P D) me_116 Q (19, [some (.ref 0), none, some (.int x2)], [.int r1], 1, 6) (I2, J, sm_rf 21 d)
    refine sm_W.run (sm_C_mono D) 1 (G := True) (fr' := (if decide (¬ r1 = 0) = true then 22 else 20, [some (.ref 0), none, some (.int x2)], [], 1, 6)) (M' := (I2, J, sm_rf 21 d)) rfl trivial (sm_W.iteD h (fun hc h => ?_) (fun hc h => ?_))
    · refine sm_W.run (sm_C_mono D) 4 (G := True) (fr' := (26, [some (.ref 0), none, some (.int x2)], [.int x2, .ref 9], 1, 6)) (M' := (I2, J, sm_rf 21 d)) rfl trivial ?_
      obtain ⟨I3, hc, h⟩ := sd_q1_go h
      refine sm_W.cal (sm_C_mono D) (y := 64) (as := [.ref 9, .int x2]) (fr' := (27, [some (.ref 0), none, some (.int x2)], [], 1, 6)) rfl (T_State_letGo (by omega) (by decide) hc ?_)
      show sm_W sm_sh X (sm_C sm_sh X sm_P D) me_116 Q (27, [some (.ref 0), none, some (.int x2)], [], 1, 6) (I3, J, sm_rf 21 d)
      refine sm_W.run (sm_C_mono D) 1 (G := True) (fr' := (28, [some (.ref 0), none, some (.int x2)], [.int (1 : Int32)], 1, 6)) (M' := (I3, J, sm_rf 21 d)) rfl trivial ?_
      cases h
      exact sm_W.ret (sm_C_mono D) rfl (hQ1 _ rfl)
    · refine sm_W.run (sm_C_mono D) 1 (G := True) (fr' := (21, [some (.ref 0), none, some (.int x2)], [.int (0 : Int32)], 1, 6)) (M' := (I2, J, sm_rf 21 d)) rfl trivial ?_
      cases h
      exact sm_W.ret (sm_C_mono D) rfl (hQ1 _ rfl)
  · skip
    obtain ⟨r1, I2, hc, h⟩ := sd_q2_go h
    refine sm_W.cal (sm_C_mono D) (y := 118) (as := [.ref 0, .int s1]) (fr' := (19, [some (.ref 0), none, some (.int x2)], [], 1, 6)) rfl (T_VM_mayAct (by omega) hc ?_)
    show sm_W sm_sh X (sm_C sm_sh X sm_P D) me_116 Q (19, [some (.ref 0), none, some (.int x2)], [.int r1], 1, 6) (I2, J, sm_rf 41 d)
    refine sm_W.run (sm_C_mono D) 1 (G := True) (fr' := (if decide (¬ r1 = 0) = true then 22 else 20, [some (.ref 0), none, some (.int x2)], [], 1, 6)) (M' := (I2, J, sm_rf 41 d)) rfl trivial (sm_W.iteD h (fun hc h => ?_) (fun hc h => ?_))
    · refine sm_W.run (sm_C_mono D) 4 (G := True) (fr' := (26, [some (.ref 0), none, some (.int x2)], [.int x2, .ref 9], 1, 6)) (M' := (I2, J, sm_rf 41 d)) rfl trivial ?_
      obtain ⟨I3, hc, h⟩ := sd_q1_go h
      refine sm_W.cal (sm_C_mono D) (y := 64) (as := [.ref 9, .int x2]) (fr' := (27, [some (.ref 0), none, some (.int x2)], [], 1, 6)) rfl (T_State_letGo (by omega) (by decide) hc ?_)
      show sm_W sm_sh X (sm_C sm_sh X sm_P D) me_116 Q (27, [some (.ref 0), none, some (.int x2)], [], 1, 6) (I3, J, sm_rf 41 d)
      refine sm_W.run (sm_C_mono D) 1 (G := True) (fr' := (28, [some (.ref 0), none, some (.int x2)], [.int (1 : Int32)], 1, 6)) (M' := (I3, J, sm_rf 41 d)) rfl trivial ?_
      cases h
      exact sm_W.ret (sm_C_mono D) rfl (hQ1 _ rfl)
    · refine sm_W.run (sm_C_mono D) 1 (G := True) (fr' := (21, [some (.ref 0), none, some (.int x2)], [.int (0 : Int32)], 1, 6)) (M' := (I2, J, sm_rf 41 d)) rfl trivial ?_
      cases h
      exact sm_W.ret (sm_C_mono D) rfl (hQ1 _ rfl)
theorem G_VM_release {X : Nat × (Nat → Int32)} {t d D : Nat} {Q : sm_Q} {I : sm_MI} {J : sm_MJ} {x1 : Int32} {rz : (Int32 ⊕ Nat)} {Iz : sm_MI}
    (hD : 3 ≤ D) (ht : t = 21 ∨ t = 41) (h : F_VM_release t x1 I = some (rz, Iz)) (hQ1 : ∀ v, rz = .inl v → Q (.inl (some (.int v))) (Iz, J, sm_rf t d)) (hQ2 : ∀ E, rz = .inr E → Q (.inr E) (Iz, J, sm_rf t d))  : sm_W sm_sh X (sm_C sm_sh X sm_P D) me_116 Q (0, [some (.ref 0), some (.int x1), none], [], 0, 0) (I, J, sm_rf t d) := by
  unfold F_VM_release at h
  rcases ht with rfl | rfl
  · skip
    refine sm_W.run (sm_C_mono D) 2 (G := True) (fr' := (2, [some (.ref 0), some (.int x1), none], [.int x1, .ref 0], 0, 0)) (M' := (I, J, sm_rf 21 d)) rfl trivial ?_
    rcases sd_t1_go h with ⟨r1, hc, h⟩ | ⟨r1, hc, h⟩
    · refine sm_W.cal (sm_C_mono D) (y := 151) (as := [.ref 0, .int x1]) (fr' := (3, [some (.ref 0), some (.int x1), none], [], 1, 6)) rfl (T_VM_checkSinger (by omega) (by decide) hc (fun _ e => ?_) (fun _ e => by cases e))
      cases e
      show sm_W sm_sh X (sm_C sm_sh X sm_P D) me_116 Q (3, [some (.ref 0), some (.int x1), none], [], 1, 6) (I, J, sm_rf 21 d)
      refine sm_W.runL (sm_C_mono D) 4 (G := True) (e := ((1 : Int32) <<< (x1 &&& 31))) (fr' := fun a2 => (7, [some (.ref 0), some (.int x1), some (.int a2)], [], 1, 6)) (M' := fun _ => (I, J, sm_rf 21 d)) rfl h trivial (fun a2 h => ?_)
      refine sm_W.run (sm_C_mono D) 8 (G := True) (fr' := (if decide (((I 9 1) &&& a2) = 0) = true then 17 else 15, [some (.ref 0), some (.int x1), some (.int a2)], [.ref 0], 1, 6)) (M' := (I, J, sm_rf 21 d)) rfl trivial (sm_W.iteD h (fun hc h => ?_) (fun hc h => ?_))
      · refine sm_W.run (sm_C_mono D) 1 (G := True) (fr' := (18, [some (.ref 0), some (.int x1), some (.int a2)], [.int (0 : Int32), .ref 0], 1, 6)) (M' := (I, J, sm_rf 21 d)) rfl trivial ?_
        exact sm_W.forget (L' := [some (.ref 0), none, some (.int a2)]) ⟨rfl, ⟨rfl, trivial⟩⟩ (G_VM_release_18 hD (by decide) h hQ1 hQ2)
      · refine sm_W.run (sm_C_mono D) 2 (G := True) (fr' := (18, [some (.ref 0), some (.int x1), some (.int a2)], [.int (1 : Int32), .ref 0], 1, 6)) (M' := (I, J, sm_rf 21 d)) rfl trivial ?_
        exact sm_W.forget (L' := [some (.ref 0), none, some (.int a2)]) ⟨rfl, ⟨rfl, trivial⟩⟩ (G_VM_release_18 hD (by decide) h hQ1 hQ2)
    · refine sm_W.cal (sm_C_mono D) (y := 151) (as := [.ref 0, .int x1]) (fr' := (3, [some (.ref 0), some (.int x1), none], [], 1, 6)) rfl (T_VM_checkSinger (by omega) (by decide) hc (fun _ e => by cases e) (fun _ e => ?_))
      cases e
      cases h
      exact ⟨rfl, hQ2 _ rfl⟩
  · skip
    refine sm_W.run (sm_C_mono D) 2 (G := True) (fr' := (2, [some (.ref 0), some (.int x1), none], [.int x1, .ref 0], 0, 0)) (M' := (I, J, sm_rf 41 d)) rfl trivial ?_
    rcases sd_t1_go h with ⟨r1, hc, h⟩ | ⟨r1, hc, h⟩
    · refine sm_W.cal (sm_C_mono D) (y := 151) (as := [.ref 0, .int x1]) (fr' := (3, [some (.ref 0), some (.int x1), none], [], 1, 6)) rfl (T_VM_checkSinger (by omega) (by decide) hc (fun _ e => ?_) (fun _ e => by cases e))
      cases e
      show sm_W sm_sh X (sm_C sm_sh X sm_P D) me_116 Q (3, [some (.ref 0), some (.int x1), none], [], 1, 6) (I, J, sm_rf 41 d)
      refine sm_W.runL (sm_C_mono D) 4 (G := True) (e := ((1 : Int32) <<< (x1 &&& 31))) (fr' := fun a2 => (7, [some (.ref 0), some (.int x1), some (.int a2)], [], 1, 6)) (M' := fun _ => (I, J, sm_rf 41 d)) rfl h trivial (fun a2 h => ?_)
      refine sm_W.run (sm_C_mono D) 8 (G := True) (fr' := (if decide (((I 9 1) &&& a2) = 0) = true then 17 else 15, [some (.ref 0), some (.int x1), some (.int a2)], [.ref 0], 1, 6)) (M' := (I, J, sm_rf 41 d)) rfl trivial (sm_W.iteD h (fun hc h => ?_) (fun hc h => ?_))
      · refine sm_W.run (sm_C_mono D) 1 (G := True) (fr' := (18, [some (.ref 0), some (.int x1), some (.int a2)], [.int (0 : Int32), .ref 0], 1, 6)) (M' := (I, J, sm_rf 41 d)) rfl trivial ?_
        exact sm_W.forget (L' := [some (.ref 0), none, some (.int a2)]) ⟨rfl, ⟨rfl, trivial⟩⟩ (G_VM_release_18 hD (by decide) h hQ1 hQ2)
      · refine sm_W.run (sm_C_mono D) 2 (G := True) (fr' := (18, [some (.ref 0), some (.int x1), some (.int a2)], [.int (1 : Int32), .ref 0], 1, 6)) (M' := (I, J, sm_rf 41 d)) rfl trivial ?_
        exact sm_W.forget (L' := [some (.ref 0), none, some (.int a2)]) ⟨rfl, ⟨rfl, trivial⟩⟩ (G_VM_release_18 hD (by decide) h hQ1 hQ2)
    · refine sm_W.cal (sm_C_mono D) (y := 151) (as := [.ref 0, .int x1]) (fr' := (3, [some (.ref 0), some (.int x1), none], [], 1, 6)) rfl (T_VM_checkSinger (by omega) (by decide) hc (fun _ e => by cases e) (fun _ e => ?_))
      cases e
      cases h
      exact ⟨rfl, hQ2 _ rfl⟩
theorem T_VM_release {X : Nat × (Nat → Int32)} {t d D : Nat} {Q : sm_Q} {I : sm_MI} {J : sm_MJ} {x1 : Int32} {rz : (Int32 ⊕ Nat)} {Iz : sm_MI}
    (hD : 4 ≤ D) (ht : t = 21 ∨ t = 41) (h : F_VM_release t x1 I = some (rz, Iz)) (hQ1 : ∀ v, rz = .inl v → Q (.inl (some (.int v))) (Iz, J, sm_rf t d)) (hQ2 : ∀ E, rz = .inr E → Q (.inr E) (Iz, J, sm_rf t d)) : sm_C sm_sh X sm_P D 116 [.ref 0, .int x1] (I, J, sm_rf t d) Q := by
  cases D with
  | zero => omega
  | succ D => exact sm_C.of (me := me_116) (L := [some (.ref 0), some (.int x1), none]) rfl rfl rfl (sm_W.forget (L' := [some (.ref 0), some (.int x1), none]) ⟨rfl, ⟨rfl, trivial⟩⟩ (G_VM_release (by omega) ht h hQ1 hQ2))
-- 117 VM_exchange
noncomputable def F_VM_exchange_36 (t : Nat) (x1 : Int32) (x2 : Int32) (s0 : Int32) (I : sm_MI) : Option ((Int32 ⊕ Nat) × sm_MI) :=
  sd_q2 (F_VM_mayAct s0 I) fun r1 I2 =>
  if ¬ r1 = 0 then
    sd_q1 (F_State_letGo 9 (((1 : Int32) <<< (x1 &&& 31)) ||| ((1 : Int32) <<< (x2 &&& 31))) I2) fun I3 =>
    some (.inl (1 : Int32), I3)
  else
    some (.inl (0 : Int32), I2)
noncomputable def F_VM_exchange (t : Nat) (x1 : Int32) (x2 : Int32) (I : sm_MI) : Option ((Int32 ⊕ Nat) × sm_MI) :=
  sd_t1 (F_VM_checkSinger t x1 I) (fun r1 =>
    sd_t1 (F_VM_checkSinger t x2 I) (fun r2 =>
      sd_lt (I 9 1) fun a3 =>
      sd_q1 (F_Valley_ofSide t (0 : Int32) I) fun r4 =>
      if ((r4 &&& a3) &&& ((1 : Int32) <<< (x1 &&& 31))) = 0 then
        F_VM_exchange_36 t x1 x2 (0 : Int32) I
      else
        sd_q1 (F_Valley_ofSide t (1 : Int32) I) fun r5 =>
        if ((r5 &&& a3) &&& ((1 : Int32) <<< (x2 &&& 31))) = 0 then
          F_VM_exchange_36 t x1 x2 (0 : Int32) I
        else
          F_VM_exchange_36 t x1 x2 (1 : Int32) I)
      (fun r2 => some (.inr r2, I)))
    (fun r1 => some (.inr r1, I))
theorem G_VM_exchange_36 {X : Nat × (Nat → Int32)} {t d D : Nat} {Q : sm_Q} {I : sm_MI} {J : sm_MJ} {x1 : Int32} {x2 : Int32} {s0 : Int32} {rz : (Int32 ⊕ Nat)} {Iz : sm_MI}
    (hD : 3 ≤ D) (ht : t = 21 ∨ t = 41) (h : F_VM_exchange_36 t x1 x2 s0 I = some (rz, Iz)) (hQ1 : ∀ v, rz = .inl v → Q (.inl (some (.int v))) (Iz, J, sm_rf t d)) (hQ2 : ∀ E, rz = .inr E → Q (.inr E) (Iz, J, sm_rf t d))  : sm_W sm_sh X (sm_C sm_sh X sm_P D) me_117 Q (36, [some (.ref 0), some (.int x1), some (.int x2), none, none], [.int s0], 2, 12) (I, J, sm_rf t d) := by
  unfold F_VM_exchange_36 at h
  rcases ht with rfl | rfl
  · skip
    refine sm_W.run (sm_C_mono D) 3 (G := True) (fr' := (39, [some (.ref 0), some (.int x1), some (.int x2), none, some (.int s0)], [.int s0, .ref 0], 2, 12)) (M' := (I, J, sm_rf 21 d)) rfl trivial ?_
    obtain ⟨r1, I2, hc, h⟩ := sd_q2_go h
    refine sm_W.cal (sm_C_mono D) (y := 118) (as := [.ref 0, .int s0]) (fr' := (40, [some (.ref 0), some (.int x1), some (.int x2), none, some (.int s0)], [], 2, 12)) rfl (T_VM_mayAct (by omega) hc ?_)
    show sm_W sm_sh X (sm_C sm_sh X sm_P D) me_117 Q (40, [some (.ref 0), some (.int x1), some (.int x2), none, some (.int s0)], [.int r1], 2, 12) (I2, J, sm_rf 21 d)
    refine sm_W.run (sm_C_mono D) 1 (G := True) (fr' := (if decide (¬ r1 = 0) = true then 43 else 41, [some (.ref 0), some (.int x1), some (.int x2), none, some (.int s0)], [], 2, 12)) (M' := (I2, J, sm_rf 21 d)) rfl trivial (sm_W.iteD h (fun hc h => ?_) (fun hc h => ?_))
    · refine sm_W.run (sm_C_mono D) 10 (G := True) (fr' := (53, [some (.ref 0), some (.int x1), some (.int x2), none, some (.int s0)], [.int (((1 : Int32) <<< (x1 &&& 31)) ||| ((1 : Int32) <<< (x2 &&& 31))), .ref 9], 2, 12)) (M' := (I2, J, sm_rf 21 d)) rfl trivial ?_
      obtain ⟨I3, hc, h⟩ := sd_q1_go h
      refine sm_W.cal (sm_C_mono D) (y := 64) (as := [.ref 9, .int (((1 : Int32) <<< (x1 &&& 31)) ||| ((1 : Int32) <<< (x2 &&& 31)))]) (fr' := (54, [some (.ref 0), some (.int x1), some (.int x2), none, some (.int s0)], [], 2, 12)) rfl (T_State_letGo (by omega) (by decide) hc ?_)
      show sm_W sm_sh X (sm_C sm_sh X sm_P D) me_117 Q (54, [some (.ref 0), some (.int x1), some (.int x2), none, some (.int s0)], [], 2, 12) (I3, J, sm_rf 21 d)
      refine sm_W.run (sm_C_mono D) 1 (G := True) (fr' := (55, [some (.ref 0), some (.int x1), some (.int x2), none, some (.int s0)], [.int (1 : Int32)], 2, 12)) (M' := (I3, J, sm_rf 21 d)) rfl trivial ?_
      cases h
      exact sm_W.ret (sm_C_mono D) rfl (hQ1 _ rfl)
    · refine sm_W.run (sm_C_mono D) 1 (G := True) (fr' := (42, [some (.ref 0), some (.int x1), some (.int x2), none, some (.int s0)], [.int (0 : Int32)], 2, 12)) (M' := (I2, J, sm_rf 21 d)) rfl trivial ?_
      cases h
      exact sm_W.ret (sm_C_mono D) rfl (hQ1 _ rfl)
  · skip
    refine sm_W.run (sm_C_mono D) 3 (G := True) (fr' := (39, [some (.ref 0), some (.int x1), some (.int x2), none, some (.int s0)], [.int s0, .ref 0], 2, 12)) (M' := (I, J, sm_rf 41 d)) rfl trivial ?_
    obtain ⟨r1, I2, hc, h⟩ := sd_q2_go h
    refine sm_W.cal (sm_C_mono D) (y := 118) (as := [.ref 0, .int s0]) (fr' := (40, [some (.ref 0), some (.int x1), some (.int x2), none, some (.int s0)], [], 2, 12)) rfl (T_VM_mayAct (by omega) hc ?_)
    show sm_W sm_sh X (sm_C sm_sh X sm_P D) me_117 Q (40, [some (.ref 0), some (.int x1), some (.int x2), none, some (.int s0)], [.int r1], 2, 12) (I2, J, sm_rf 41 d)
    refine sm_W.run (sm_C_mono D) 1 (G := True) (fr' := (if decide (¬ r1 = 0) = true then 43 else 41, [some (.ref 0), some (.int x1), some (.int x2), none, some (.int s0)], [], 2, 12)) (M' := (I2, J, sm_rf 41 d)) rfl trivial (sm_W.iteD h (fun hc h => ?_) (fun hc h => ?_))
    · refine sm_W.run (sm_C_mono D) 10 (G := True) (fr' := (53, [some (.ref 0), some (.int x1), some (.int x2), none, some (.int s0)], [.int (((1 : Int32) <<< (x1 &&& 31)) ||| ((1 : Int32) <<< (x2 &&& 31))), .ref 9], 2, 12)) (M' := (I2, J, sm_rf 41 d)) rfl trivial ?_
      obtain ⟨I3, hc, h⟩ := sd_q1_go h
      refine sm_W.cal (sm_C_mono D) (y := 64) (as := [.ref 9, .int (((1 : Int32) <<< (x1 &&& 31)) ||| ((1 : Int32) <<< (x2 &&& 31)))]) (fr' := (54, [some (.ref 0), some (.int x1), some (.int x2), none, some (.int s0)], [], 2, 12)) rfl (T_State_letGo (by omega) (by decide) hc ?_)
      show sm_W sm_sh X (sm_C sm_sh X sm_P D) me_117 Q (54, [some (.ref 0), some (.int x1), some (.int x2), none, some (.int s0)], [], 2, 12) (I3, J, sm_rf 41 d)
      refine sm_W.run (sm_C_mono D) 1 (G := True) (fr' := (55, [some (.ref 0), some (.int x1), some (.int x2), none, some (.int s0)], [.int (1 : Int32)], 2, 12)) (M' := (I3, J, sm_rf 41 d)) rfl trivial ?_
      cases h
      exact sm_W.ret (sm_C_mono D) rfl (hQ1 _ rfl)
    · refine sm_W.run (sm_C_mono D) 1 (G := True) (fr' := (42, [some (.ref 0), some (.int x1), some (.int x2), none, some (.int s0)], [.int (0 : Int32)], 2, 12)) (M' := (I2, J, sm_rf 41 d)) rfl trivial ?_
      cases h
      exact sm_W.ret (sm_C_mono D) rfl (hQ1 _ rfl)
theorem G_VM_exchange {X : Nat × (Nat → Int32)} {t d D : Nat} {Q : sm_Q} {I : sm_MI} {J : sm_MJ} {x1 : Int32} {x2 : Int32} {rz : (Int32 ⊕ Nat)} {Iz : sm_MI}
    (hD : 3 ≤ D) (ht : t = 21 ∨ t = 41) (h : F_VM_exchange t x1 x2 I = some (rz, Iz)) (hQ1 : ∀ v, rz = .inl v → Q (.inl (some (.int v))) (Iz, J, sm_rf t d)) (hQ2 : ∀ E, rz = .inr E → Q (.inr E) (Iz, J, sm_rf t d))  : sm_W sm_sh X (sm_C sm_sh X sm_P D) me_117 Q (0, [some (.ref 0), some (.int x1), some (.int x2), none, none], [], 0, 0) (I, J, sm_rf t d) := by
  unfold F_VM_exchange at h
  rcases ht with rfl | rfl
  · skip
    refine sm_W.run (sm_C_mono D) 2 (G := True) (fr' := (2, [some (.ref 0), some (.int x1), some (.int x2), none, none], [.int x1, .ref 0], 0, 0)) (M' := (I, J, sm_rf 21 d)) rfl trivial ?_
    rcases sd_t1_go h with ⟨r1, hc, h⟩ | ⟨r1, hc, h⟩
    · refine sm_W.cal (sm_C_mono D) (y := 151) (as := [.ref 0, .int x1]) (fr' := (3, [some (.ref 0), some (.int x1), some (.int x2), none, none], [], 1, 6)) rfl (T_VM_checkSinger (by omega) (by decide) hc (fun _ e => ?_) (fun _ e => by cases e))
      cases e
      show sm_W sm_sh X (sm_C sm_sh X sm_P D) me_117 Q (3, [some (.ref 0), some (.int x1), some (.int x2), none, none], [], 1, 6) (I, J, sm_rf 21 d)
      refine sm_W.run (sm_C_mono D) 2 (G := True) (fr' := (5, [some (.ref 0), some (.int x1), some (.int x2), none, none], [.int x2, .ref 0], 1, 6)) (M' := (I, J, sm_rf 21 d)) rfl trivial ?_
      rcases sd_t1_go h with ⟨r2, hc, h⟩ | ⟨r2, hc, h⟩
      · refine sm_W.cal (sm_C_mono D) (y := 151) (as := [.ref 0, .int x2]) (fr' := (6, [some (.ref 0), some (.int x1), some (.int x2), none, none], [], 2, 12)) rfl (T_VM_checkSinger (by omega) (by decide) hc (fun _ e => ?_) (fun _ e => by cases e))
        cases e
        show sm_W sm_sh X (sm_C sm_sh X sm_P D) me_117 Q (6, [some (.ref 0), some (.int x1), some (.int x2), none, none], [], 2, 12) (I, J, sm_rf 21 d)
        refine sm_W.runL (sm_C_mono D) 5 (G := True) (e := (I 9 1)) (fr' := fun a3 => (11, [some (.ref 0), some (.int x1), some (.int x2), some (.int a3), none], [], 2, 12)) (M' := fun _ => (I, J, sm_rf 21 d)) rfl h trivial (fun a3 h => ?_)
        refine sm_W.run (sm_C_mono D) 3 (G := True) (fr' := (14, [some (.ref 0), some (.int x1), some (.int x2), some (.int a3), none], [.int (0 : Int32), .ref 21], 2, 12)) (M' := (I, J, sm_rf 21 d)) rfl trivial ?_
        obtain ⟨r4, hc, h⟩ := sd_q1_go h
        refine sm_W.cal (sm_C_mono D) (y := 83) (as := [.ref 21, .int (0 : Int32)]) (fr' := (15, [some (.ref 0), some (.int x1), some (.int x2), some (.int a3), none], [], 2, 12)) rfl (T_Valley_ofSide (by omega) (by decide) hc ?_)
        show sm_W sm_sh X (sm_C sm_sh X sm_P D) me_117 Q (15, [some (.ref 0), some (.int x1), some (.int x2), some (.int a3), none], [.int r4], 2, 12) (I, J, sm_rf 21 d)
        refine sm_W.run (sm_C_mono D) 7 (G := True) (fr' := (if decide (((r4 &&& a3) &&& ((1 : Int32) <<< (x1 &&& 31))) = 0) = true then 35 else 22, [some (.ref 0), some (.int x1), some (.int x2), some (.int a3), none], [], 2, 12)) (M' := (I, J, sm_rf 21 d)) rfl trivial (sm_W.iteD h (fun hc h => ?_) (fun hc h => ?_))
        · refine sm_W.run (sm_C_mono D) 1 (G := True) (fr' := (36, [some (.ref 0), some (.int x1), some (.int x2), some (.int a3), none], [.int (0 : Int32)], 2, 12)) (M' := (I, J, sm_rf 21 d)) rfl trivial ?_
          exact sm_W.forget (L' := [some (.ref 0), some (.int x1), some (.int x2), none, none]) ⟨rfl, ⟨rfl, ⟨rfl, trivial⟩⟩⟩ (G_VM_exchange_36 hD (by decide) h hQ1 hQ2)
        · refine sm_W.run (sm_C_mono D) 3 (G := True) (fr' := (25, [some (.ref 0), some (.int x1), some (.int x2), some (.int a3), none], [.int (1 : Int32), .ref 21], 2, 12)) (M' := (I, J, sm_rf 21 d)) rfl trivial ?_
          obtain ⟨r5, hc, h⟩ := sd_q1_go h
          refine sm_W.cal (sm_C_mono D) (y := 83) (as := [.ref 21, .int (1 : Int32)]) (fr' := (26, [some (.ref 0), some (.int x1), some (.int x2), some (.int a3), none], [], 2, 12)) rfl (T_Valley_ofSide (by omega) (by decide) hc ?_)
          show sm_W sm_sh X (sm_C sm_sh X sm_P D) me_117 Q (26, [some (.ref 0), some (.int x1), some (.int x2), some (.int a3), none], [.int r5], 2, 12) (I, J, sm_rf 21 d)
          refine sm_W.run (sm_C_mono D) 7 (G := True) (fr' := (if decide (((r5 &&& a3) &&& ((1 : Int32) <<< (x2 &&& 31))) = 0) = true then 35 else 33, [some (.ref 0), some (.int x1), some (.int x2), some (.int a3), none], [], 2, 12)) (M' := (I, J, sm_rf 21 d)) rfl trivial (sm_W.iteD h (fun hc h => ?_) (fun hc h => ?_))
          · refine sm_W.run (sm_C_mono D) 1 (G := True) (fr' := (36, [some (.ref 0), some (.int x1), some (.int x2), some (.int a3), none], [.int (0 : Int32)], 2, 12)) (M' := (I, J, sm_rf 21 d)) rfl trivial ?_
            exact sm_W.forget (L' := [some (.ref 0), some (.int x1), some (.int x2), none, none]) ⟨rfl, ⟨rfl, ⟨rfl, trivial⟩⟩⟩ (G_VM_exchange_36 hD (by decide) h hQ1 hQ2)
          · refine sm_W.run (sm_C_mono D) 2 (G := True) (fr' := (36, [some (.ref 0), some (.int x1), some (.int x2), some (.int a3), none], [.int (1 : Int32)], 2, 12)) (M' := (I, J, sm_rf 21 d)) rfl trivial ?_
            exact sm_W.forget (L' := [some (.ref 0), some (.int x1), some (.int x2), none, none]) ⟨rfl, ⟨rfl, ⟨rfl, trivial⟩⟩⟩ (G_VM_exchange_36 hD (by decide) h hQ1 hQ2)
      · refine sm_W.cal (sm_C_mono D) (y := 151) (as := [.ref 0, .int x2]) (fr' := (6, [some (.ref 0), some (.int x1), some (.int x2), none, none], [], 2, 12)) rfl (T_VM_checkSinger (by omega) (by decide) hc (fun _ e => by cases e) (fun _ e => ?_))
        cases e
        cases h
        exact ⟨rfl, hQ2 _ rfl⟩
    · refine sm_W.cal (sm_C_mono D) (y := 151) (as := [.ref 0, .int x1]) (fr' := (3, [some (.ref 0), some (.int x1), some (.int x2), none, none], [], 1, 6)) rfl (T_VM_checkSinger (by omega) (by decide) hc (fun _ e => by cases e) (fun _ e => ?_))
      cases e
      cases h
      exact ⟨rfl, hQ2 _ rfl⟩
  · skip
    refine sm_W.run (sm_C_mono D) 2 (G := True) (fr' := (2, [some (.ref 0), some (.int x1), some (.int x2), none, none], [.int x1, .ref 0], 0, 0)) (M' := (I, J, sm_rf 41 d)) rfl trivial ?_
    rcases sd_t1_go h with ⟨r1, hc, h⟩ | ⟨r1, hc, h⟩
    · refine sm_W.cal (sm_C_mono D) (y := 151) (as := [.ref 0, .int x1]) (fr' := (3, [some (.ref 0), some (.int x1), some (.int x2), none, none], [], 1, 6)) rfl (T_VM_checkSinger (by omega) (by decide) hc (fun _ e => ?_) (fun _ e => by cases e))
      cases e
      show sm_W sm_sh X (sm_C sm_sh X sm_P D) me_117 Q (3, [some (.ref 0), some (.int x1), some (.int x2), none, none], [], 1, 6) (I, J, sm_rf 41 d)
      refine sm_W.run (sm_C_mono D) 2 (G := True) (fr' := (5, [some (.ref 0), some (.int x1), some (.int x2), none, none], [.int x2, .ref 0], 1, 6)) (M' := (I, J, sm_rf 41 d)) rfl trivial ?_
      rcases sd_t1_go h with ⟨r2, hc, h⟩ | ⟨r2, hc, h⟩
      · refine sm_W.cal (sm_C_mono D) (y := 151) (as := [.ref 0, .int x2]) (fr' := (6, [some (.ref 0), some (.int x1), some (.int x2), none, none], [], 2, 12)) rfl (T_VM_checkSinger (by omega) (by decide) hc (fun _ e => ?_) (fun _ e => by cases e))
        cases e
        show sm_W sm_sh X (sm_C sm_sh X sm_P D) me_117 Q (6, [some (.ref 0), some (.int x1), some (.int x2), none, none], [], 2, 12) (I, J, sm_rf 41 d)
        refine sm_W.runL (sm_C_mono D) 5 (G := True) (e := (I 9 1)) (fr' := fun a3 => (11, [some (.ref 0), some (.int x1), some (.int x2), some (.int a3), none], [], 2, 12)) (M' := fun _ => (I, J, sm_rf 41 d)) rfl h trivial (fun a3 h => ?_)
        refine sm_W.run (sm_C_mono D) 3 (G := True) (fr' := (14, [some (.ref 0), some (.int x1), some (.int x2), some (.int a3), none], [.int (0 : Int32), .ref 41], 2, 12)) (M' := (I, J, sm_rf 41 d)) rfl trivial ?_
        obtain ⟨r4, hc, h⟩ := sd_q1_go h
        refine sm_W.cal (sm_C_mono D) (y := 83) (as := [.ref 41, .int (0 : Int32)]) (fr' := (15, [some (.ref 0), some (.int x1), some (.int x2), some (.int a3), none], [], 2, 12)) rfl (T_Valley_ofSide (by omega) (by decide) hc ?_)
        show sm_W sm_sh X (sm_C sm_sh X sm_P D) me_117 Q (15, [some (.ref 0), some (.int x1), some (.int x2), some (.int a3), none], [.int r4], 2, 12) (I, J, sm_rf 41 d)
        refine sm_W.run (sm_C_mono D) 7 (G := True) (fr' := (if decide (((r4 &&& a3) &&& ((1 : Int32) <<< (x1 &&& 31))) = 0) = true then 35 else 22, [some (.ref 0), some (.int x1), some (.int x2), some (.int a3), none], [], 2, 12)) (M' := (I, J, sm_rf 41 d)) rfl trivial (sm_W.iteD h (fun hc h => ?_) (fun hc h => ?_))
        · refine sm_W.run (sm_C_mono D) 1 (G := True) (fr' := (36, [some (.ref 0), some (.int x1), some (.int x2), some (.int a3), none], [.int (0 : Int32)], 2, 12)) (M' := (I, J, sm_rf 41 d)) rfl trivial ?_
          exact sm_W.forget (L' := [some (.ref 0), some (.int x1), some (.int x2), none, none]) ⟨rfl, ⟨rfl, ⟨rfl, trivial⟩⟩⟩ (G_VM_exchange_36 hD (by decide) h hQ1 hQ2)
        · refine sm_W.run (sm_C_mono D) 3 (G := True) (fr' := (25, [some (.ref 0), some (.int x1), some (.int x2), some (.int a3), none], [.int (1 : Int32), .ref 41], 2, 12)) (M' := (I, J, sm_rf 41 d)) rfl trivial ?_
          obtain ⟨r5, hc, h⟩ := sd_q1_go h
          refine sm_W.cal (sm_C_mono D) (y := 83) (as := [.ref 41, .int (1 : Int32)]) (fr' := (26, [some (.ref 0), some (.int x1), some (.int x2), some (.int a3), none], [], 2, 12)) rfl (T_Valley_ofSide (by omega) (by decide) hc ?_)
          show sm_W sm_sh X (sm_C sm_sh X sm_P D) me_117 Q (26, [some (.ref 0), some (.int x1), some (.int x2), some (.int a3), none], [.int r5], 2, 12) (I, J, sm_rf 41 d)
          refine sm_W.run (sm_C_mono D) 7 (G := True) (fr' := (if decide (((r5 &&& a3) &&& ((1 : Int32) <<< (x2 &&& 31))) = 0) = true then 35 else 33, [some (.ref 0), some (.int x1), some (.int x2), some (.int a3), none], [], 2, 12)) (M' := (I, J, sm_rf 41 d)) rfl trivial (sm_W.iteD h (fun hc h => ?_) (fun hc h => ?_))
          · refine sm_W.run (sm_C_mono D) 1 (G := True) (fr' := (36, [some (.ref 0), some (.int x1), some (.int x2), some (.int a3), none], [.int (0 : Int32)], 2, 12)) (M' := (I, J, sm_rf 41 d)) rfl trivial ?_
            exact sm_W.forget (L' := [some (.ref 0), some (.int x1), some (.int x2), none, none]) ⟨rfl, ⟨rfl, ⟨rfl, trivial⟩⟩⟩ (G_VM_exchange_36 hD (by decide) h hQ1 hQ2)
          · refine sm_W.run (sm_C_mono D) 2 (G := True) (fr' := (36, [some (.ref 0), some (.int x1), some (.int x2), some (.int a3), none], [.int (1 : Int32)], 2, 12)) (M' := (I, J, sm_rf 41 d)) rfl trivial ?_
            exact sm_W.forget (L' := [some (.ref 0), some (.int x1), some (.int x2), none, none]) ⟨rfl, ⟨rfl, ⟨rfl, trivial⟩⟩⟩ (G_VM_exchange_36 hD (by decide) h hQ1 hQ2)
      · refine sm_W.cal (sm_C_mono D) (y := 151) (as := [.ref 0, .int x2]) (fr' := (6, [some (.ref 0), some (.int x1), some (.int x2), none, none], [], 2, 12)) rfl (T_VM_checkSinger (by omega) (by decide) hc (fun _ e => by cases e) (fun _ e => ?_))
        cases e
        cases h
        exact ⟨rfl, hQ2 _ rfl⟩
    · refine sm_W.cal (sm_C_mono D) (y := 151) (as := [.ref 0, .int x1]) (fr' := (3, [some (.ref 0), some (.int x1), some (.int x2), none, none], [], 1, 6)) rfl (T_VM_checkSinger (by omega) (by decide) hc (fun _ e => by cases e) (fun _ e => ?_))
      cases e
      cases h
      exact ⟨rfl, hQ2 _ rfl⟩
theorem T_VM_exchange {X : Nat × (Nat → Int32)} {t d D : Nat} {Q : sm_Q} {I : sm_MI} {J : sm_MJ} {x1 : Int32} {x2 : Int32} {rz : (Int32 ⊕ Nat)} {Iz : sm_MI}
    (hD : 4 ≤ D) (ht : t = 21 ∨ t = 41) (h : F_VM_exchange t x1 x2 I = some (rz, Iz)) (hQ1 : ∀ v, rz = .inl v → Q (.inl (some (.int v))) (Iz, J, sm_rf t d)) (hQ2 : ∀ E, rz = .inr E → Q (.inr E) (Iz, J, sm_rf t d)) : sm_C sm_sh X sm_P D 117 [.ref 0, .int x1, .int x2] (I, J, sm_rf t d) Q := by
  cases D with
  | zero => omega
  | succ D => exact sm_C.of (me := me_117) (L := [some (.ref 0), some (.int x1), some (.int x2), none, none]) rfl rfl rfl (sm_W.forget (L' := [some (.ref 0), some (.int x1), some (.int x2), none, none]) ⟨rfl, ⟨rfl, ⟨rfl, trivial⟩⟩⟩ (G_VM_exchange (by omega) ht h hQ1 hQ2))
-- 119 VM_undo
noncomputable def F_VM_undo (I : sm_MI) : Option (Int32 × sm_MI) :=
  if 0 < (I 8 2) then
    sd_q1 (F_Story_takeBack I) fun I1 =>
    some ((I1 8 2), I1)
  else
    some ((-1 : Int32), I)
theorem G_VM_undo {X : Nat × (Nat → Int32)} {t d D : Nat} {Q : sm_Q} {I : sm_MI} {J : sm_MJ} {rz : Int32} {Iz : sm_MI}
    (hD : 2 ≤ D) (h : F_VM_undo I = some (rz, Iz)) (hQ : Q (.inl (some (.int rz))) (Iz, J, sm_rf t d))  : sm_W sm_sh X (sm_C sm_sh X sm_P D) me_119 Q (0, [some (.ref 0)], [], 0, 0) (I, J, sm_rf t d) := by
  unfold F_VM_undo at h
  refine sm_W.run (sm_C_mono D) 4 (G := True) (fr' := (if decide (0 < (I 8 2)) = true then 6 else 4, [some (.ref 0)], [], 0, 0)) (M' := (I, J, sm_rf t d)) rfl trivial (sm_W.iteD h (fun hc h => ?_) (fun hc h => ?_))
  · refine sm_W.run (sm_C_mono D) 2 (G := True) (fr' := (8, [some (.ref 0)], [.ref 8], 0, 0)) (M' := (I, J, sm_rf t d)) rfl trivial ?_
    obtain ⟨I1, hc, h⟩ := sd_q1_go h
    refine sm_W.cal (sm_C_mono D) (y := 21) (as := [.ref 8]) (fr' := (9, [some (.ref 0)], [], 0, 0)) rfl (T_Story_takeBack (by omega) hc ?_)
    show sm_W sm_sh X (sm_C sm_sh X sm_P D) me_119 Q (9, [some (.ref 0)], [], 0, 0) (I1, J, sm_rf t d)
    refine sm_W.run (sm_C_mono D) 3 (G := True) (fr' := (12, [some (.ref 0)], [.int (I1 8 2)], 0, 0)) (M' := (I1, J, sm_rf t d)) rfl trivial ?_
    cases h
    exact sm_W.ret (sm_C_mono D) rfl hQ
  · refine sm_W.run (sm_C_mono D) 1 (G := True) (fr' := (5, [some (.ref 0)], [.int (-1 : Int32)], 0, 0)) (M' := (I, J, sm_rf t d)) rfl trivial ?_
    cases h
    exact sm_W.ret (sm_C_mono D) rfl hQ
theorem T_VM_undo {X : Nat × (Nat → Int32)} {t d D : Nat} {Q : sm_Q} {I : sm_MI} {J : sm_MJ} {rz : Int32} {Iz : sm_MI}
    (hD : 3 ≤ D) (h : F_VM_undo I = some (rz, Iz)) (hQ : Q (.inl (some (.int rz))) (Iz, J, sm_rf t d)) : sm_C sm_sh X sm_P D 119 [.ref 0] (I, J, sm_rf t d) Q := by
  cases D with
  | zero => omega
  | succ D => exact sm_C.of (me := me_119) (L := [some (.ref 0)]) rfl rfl rfl (sm_W.forget (L' := [some (.ref 0)]) ⟨rfl, trivial⟩ (G_VM_undo (by omega) h hQ))
-- 120 VM_image
noncomputable def F_VM_image (I : sm_MI) : Option (sm_MI) :=
  sd_q1 (F_Story_copyFrom 14 8 I) fun I1 =>
  sd_lt (sd_up I1 0 9 (1 : Int32)) fun I2 =>
  some (I2)
theorem G_VM_image {X : Nat × (Nat → Int32)} {t d D : Nat} {Q : sm_Q} {I : sm_MI} {J : sm_MJ} {Iz : sm_MI}
    (hD : 2 ≤ D) (h : F_VM_image I = some (Iz)) (hQ : Q (.inl none) (Iz, J, sm_rf t d))  : sm_W sm_sh X (sm_C sm_sh X sm_P D) me_120 Q (0, [some (.ref 0)], [], 0, 0) (I, J, sm_rf t d) := by
  unfold F_VM_image at h
  refine sm_W.run (sm_C_mono D) 4 (G := True) (fr' := (4, [some (.ref 0)], [.ref 8, .ref 14], 0, 0)) (M' := (I, J, sm_rf t d)) rfl trivial ?_
  obtain ⟨I1, hc, h⟩ := sd_q1_go h
  refine sm_W.cal (sm_C_mono D) (y := 19) (as := [.ref 14, .ref 8]) (fr' := (5, [some (.ref 0)], [], 0, 0)) rfl (T_Story_copyFrom (by omega) (by decide) hc ?_)
  show sm_W sm_sh X (sm_C sm_sh X sm_P D) me_120 Q (5, [some (.ref 0)], [], 0, 0) (I1, J, sm_rf t d)
  refine sm_W.runL (sm_C_mono D) 3 (G := True) (e := (sd_up I1 0 9 (1 : Int32))) (fr' := fun _ => (8, [some (.ref 0)], [], 0, 0)) (M' := fun I2 => (I2, J, sm_rf t d)) rfl h trivial (fun I2 h => ?_)
  cases h
  exact sm_W.ret (sm_C_mono D) rfl hQ
theorem T_VM_image {X : Nat × (Nat → Int32)} {t d D : Nat} {Q : sm_Q} {I : sm_MI} {J : sm_MJ} {Iz : sm_MI}
    (hD : 3 ≤ D) (h : F_VM_image I = some (Iz)) (hQ : Q (.inl none) (Iz, J, sm_rf t d)) : sm_C sm_sh X sm_P D 120 [.ref 0] (I, J, sm_rf t d) Q := by
  cases D with
  | zero => omega
  | succ D => exact sm_C.of (me := me_120) (L := [some (.ref 0)]) rfl rfl rfl (sm_W.forget (L' := [some (.ref 0)]) ⟨rfl, trivial⟩ (G_VM_image (by omega) h hQ))
-- 121 VM_restore
noncomputable def F_VM_restore (I : sm_MI) : Option (Int32 × sm_MI) :=
  if (I 0 9) = 0 then
    some ((vp_nar .boolean (I 0 9)), I)
  else
    sd_q1 (F_Story_copyFrom 8 14 I) fun I1 =>
    some ((vp_nar .boolean (I1 0 9)), I1)
theorem G_VM_restore {X : Nat × (Nat → Int32)} {t d D : Nat} {Q : sm_Q} {I : sm_MI} {J : sm_MJ} {rz : Int32} {Iz : sm_MI}
    (hD : 2 ≤ D) (h : F_VM_restore I = some (rz, Iz)) (hQ : Q (.inl (some (.int rz))) (Iz, J, sm_rf t d))  : sm_W sm_sh X (sm_C sm_sh X sm_P D) me_121 Q (0, [some (.ref 0)], [], 0, 0) (I, J, sm_rf t d) := by
  unfold F_VM_restore at h
  refine sm_W.run (sm_C_mono D) 3 (G := True) (fr' := (if decide ((I 0 9) = 0) = true then 8 else 3, [some (.ref 0)], [], 0, 0)) (M' := (I, J, sm_rf t d)) rfl trivial (sm_W.iteD h (fun hc h => ?_) (fun hc h => ?_))
  · refine sm_W.run (sm_C_mono D) 2 (G := True) (fr' := (10, [some (.ref 0)], [.int (I 0 9)], 0, 0)) (M' := (I, J, sm_rf t d)) rfl trivial ?_
    cases h
    exact sm_W.ret (sm_C_mono D) rfl hQ
  · refine sm_W.run (sm_C_mono D) 4 (G := True) (fr' := (7, [some (.ref 0)], [.ref 14, .ref 8], 0, 0)) (M' := (I, J, sm_rf t d)) rfl trivial ?_
    obtain ⟨I1, hc, h⟩ := sd_q1_go h
    refine sm_W.cal (sm_C_mono D) (y := 19) (as := [.ref 8, .ref 14]) (fr' := (8, [some (.ref 0)], [], 0, 0)) rfl (T_Story_copyFrom (by omega) (by decide) hc ?_)
    show sm_W sm_sh X (sm_C sm_sh X sm_P D) me_121 Q (8, [some (.ref 0)], [], 0, 0) (I1, J, sm_rf t d)
    refine sm_W.run (sm_C_mono D) 2 (G := True) (fr' := (10, [some (.ref 0)], [.int (I1 0 9)], 0, 0)) (M' := (I1, J, sm_rf t d)) rfl trivial ?_
    cases h
    exact sm_W.ret (sm_C_mono D) rfl hQ
theorem T_VM_restore {X : Nat × (Nat → Int32)} {t d D : Nat} {Q : sm_Q} {I : sm_MI} {J : sm_MJ} {rz : Int32} {Iz : sm_MI}
    (hD : 3 ≤ D) (h : F_VM_restore I = some (rz, Iz)) (hQ : Q (.inl (some (.int rz))) (Iz, J, sm_rf t d)) : sm_C sm_sh X sm_P D 121 [.ref 0] (I, J, sm_rf t d) Q := by
  cases D with
  | zero => omega
  | succ D => exact sm_C.of (me := me_121) (L := [some (.ref 0)]) rfl rfl rfl (sm_W.forget (L' := [some (.ref 0)]) ⟨rfl, trivial⟩ (G_VM_restore (by omega) h hQ))
-- 122 VM_moved
noncomputable def F_VM_moved (t : Nat) (x1 : Int32) (I : sm_MI) : Option ((Int32 ⊕ Nat)) :=
  sd_t1 (F_VM_checkPiece t x1 I) (fun r1 =>
    sd_q1 (F_Choir_fewestMoves t (I 9 0) x1 I) fun r2 =>
    some (.inl r2))
    (fun r1 => some (.inr r1))
theorem G_VM_moved {X : Nat × (Nat → Int32)} {t d D : Nat} {Q : sm_Q} {I : sm_MI} {J : sm_MJ} {x1 : Int32} {rz : (Int32 ⊕ Nat)}
    (hD : 4 ≤ D) (ht : t = 21 ∨ t = 41) (h : F_VM_moved t x1 I = some (rz)) (hQ1 : ∀ v, rz = .inl v → Q (.inl (some (.int v))) (I, J, sm_rf t d)) (hQ2 : ∀ E, rz = .inr E → Q (.inr E) (I, J, sm_rf t d))  : sm_W sm_sh X (sm_C sm_sh X sm_P D) me_122 Q (0, [some (.ref 0), some (.int x1)], [], 0, 0) (I, J, sm_rf t d) := by
  unfold F_VM_moved at h
  rcases ht with rfl | rfl
  · skip
    refine sm_W.run (sm_C_mono D) 2 (G := True) (fr' := (2, [some (.ref 0), some (.int x1)], [.int x1, .ref 0], 0, 0)) (M' := (I, J, sm_rf 21 d)) rfl trivial ?_
    rcases sd_t1_go h with ⟨r1, hc, h⟩ | ⟨r1, hc, h⟩
    · refine sm_W.cal (sm_C_mono D) (y := 152) (as := [.ref 0, .int x1]) (fr' := (3, [some (.ref 0), some (.int x1)], [], 1, 6)) rfl (T_VM_checkPiece (by omega) (by decide) hc (fun _ e => ?_) (fun _ e => by cases e))
      cases e
      show sm_W sm_sh X (sm_C sm_sh X sm_P D) me_122 Q (3, [some (.ref 0), some (.int x1)], [], 1, 6) (I, J, sm_rf 21 d)
      refine sm_W.run (sm_C_mono D) 7 (G := True) (fr' := (10, [some (.ref 0), some (.int x1)], [.int x1, .int (I 9 0), .ref 21], 1, 6)) (M' := (I, J, sm_rf 21 d)) rfl trivial ?_
      obtain ⟨r2, hc, h⟩ := sd_q1_go h
      refine sm_W.cal (sm_C_mono D) (y := 0) (as := [.ref 21, .int (I 9 0), .int x1]) (fr' := (11, [some (.ref 0), some (.int x1)], [], 1, 6)) rfl (T_Choir_fewestMoves (by omega) (by decide) hc ?_)
      show sm_W sm_sh X (sm_C sm_sh X sm_P D) me_122 Q (11, [some (.ref 0), some (.int x1)], [.int r2], 1, 6) (I, J, sm_rf 21 d)
      cases h
      exact sm_W.ret (sm_C_mono D) rfl (hQ1 _ rfl)
    · refine sm_W.cal (sm_C_mono D) (y := 152) (as := [.ref 0, .int x1]) (fr' := (3, [some (.ref 0), some (.int x1)], [], 1, 6)) rfl (T_VM_checkPiece (by omega) (by decide) hc (fun _ e => by cases e) (fun _ e => ?_))
      cases e
      cases h
      exact ⟨rfl, hQ2 _ rfl⟩
  · skip
    refine sm_W.run (sm_C_mono D) 2 (G := True) (fr' := (2, [some (.ref 0), some (.int x1)], [.int x1, .ref 0], 0, 0)) (M' := (I, J, sm_rf 41 d)) rfl trivial ?_
    rcases sd_t1_go h with ⟨r1, hc, h⟩ | ⟨r1, hc, h⟩
    · refine sm_W.cal (sm_C_mono D) (y := 152) (as := [.ref 0, .int x1]) (fr' := (3, [some (.ref 0), some (.int x1)], [], 1, 6)) rfl (T_VM_checkPiece (by omega) (by decide) hc (fun _ e => ?_) (fun _ e => by cases e))
      cases e
      show sm_W sm_sh X (sm_C sm_sh X sm_P D) me_122 Q (3, [some (.ref 0), some (.int x1)], [], 1, 6) (I, J, sm_rf 41 d)
      refine sm_W.run (sm_C_mono D) 7 (G := True) (fr' := (10, [some (.ref 0), some (.int x1)], [.int x1, .int (I 9 0), .ref 41], 1, 6)) (M' := (I, J, sm_rf 41 d)) rfl trivial ?_
      obtain ⟨r2, hc, h⟩ := sd_q1_go h
      refine sm_W.cal (sm_C_mono D) (y := 0) (as := [.ref 41, .int (I 9 0), .int x1]) (fr' := (11, [some (.ref 0), some (.int x1)], [], 1, 6)) rfl (T_Choir_fewestMoves (by omega) (by decide) hc ?_)
      show sm_W sm_sh X (sm_C sm_sh X sm_P D) me_122 Q (11, [some (.ref 0), some (.int x1)], [.int r2], 1, 6) (I, J, sm_rf 41 d)
      cases h
      exact sm_W.ret (sm_C_mono D) rfl (hQ1 _ rfl)
    · refine sm_W.cal (sm_C_mono D) (y := 152) (as := [.ref 0, .int x1]) (fr' := (3, [some (.ref 0), some (.int x1)], [], 1, 6)) rfl (T_VM_checkPiece (by omega) (by decide) hc (fun _ e => by cases e) (fun _ e => ?_))
      cases e
      cases h
      exact ⟨rfl, hQ2 _ rfl⟩
theorem T_VM_moved {X : Nat × (Nat → Int32)} {t d D : Nat} {Q : sm_Q} {I : sm_MI} {J : sm_MJ} {x1 : Int32} {rz : (Int32 ⊕ Nat)}
    (hD : 5 ≤ D) (ht : t = 21 ∨ t = 41) (h : F_VM_moved t x1 I = some (rz)) (hQ1 : ∀ v, rz = .inl v → Q (.inl (some (.int v))) (I, J, sm_rf t d)) (hQ2 : ∀ E, rz = .inr E → Q (.inr E) (I, J, sm_rf t d)) : sm_C sm_sh X sm_P D 122 [.ref 0, .int x1] (I, J, sm_rf t d) Q := by
  cases D with
  | zero => omega
  | succ D => exact sm_C.of (me := me_122) (L := [some (.ref 0), some (.int x1)]) rfl rfl rfl (sm_W.forget (L' := [some (.ref 0), some (.int x1)]) ⟨rfl, ⟨rfl, trivial⟩⟩ (G_VM_moved (by omega) ht h hQ1 hQ2))
-- 123 VM_spare
noncomputable def F_VM_spare (t : Nat) (x1 : Int32) (I : sm_MI) : Option ((Int32 ⊕ Nat)) :=
  sd_t1 (F_VM_checkPiece t x1 I) (fun r1 =>
    sd_q1 (F_Choir_sparable t (I 9 0) x1 I) fun r2 =>
    some (.inl r2))
    (fun r1 => some (.inr r1))
theorem G_VM_spare {X : Nat × (Nat → Int32)} {t d D : Nat} {Q : sm_Q} {I : sm_MI} {J : sm_MJ} {x1 : Int32} {rz : (Int32 ⊕ Nat)}
    (hD : 3 ≤ D) (ht : t = 21 ∨ t = 41) (h : F_VM_spare t x1 I = some (rz)) (hQ1 : ∀ v, rz = .inl v → Q (.inl (some (.int v))) (I, J, sm_rf t d)) (hQ2 : ∀ E, rz = .inr E → Q (.inr E) (I, J, sm_rf t d))  : sm_W sm_sh X (sm_C sm_sh X sm_P D) me_123 Q (0, [some (.ref 0), some (.int x1)], [], 0, 0) (I, J, sm_rf t d) := by
  unfold F_VM_spare at h
  rcases ht with rfl | rfl
  · skip
    refine sm_W.run (sm_C_mono D) 2 (G := True) (fr' := (2, [some (.ref 0), some (.int x1)], [.int x1, .ref 0], 0, 0)) (M' := (I, J, sm_rf 21 d)) rfl trivial ?_
    rcases sd_t1_go h with ⟨r1, hc, h⟩ | ⟨r1, hc, h⟩
    · refine sm_W.cal (sm_C_mono D) (y := 152) (as := [.ref 0, .int x1]) (fr' := (3, [some (.ref 0), some (.int x1)], [], 1, 6)) rfl (T_VM_checkPiece (by omega) (by decide) hc (fun _ e => ?_) (fun _ e => by cases e))
      cases e
      show sm_W sm_sh X (sm_C sm_sh X sm_P D) me_123 Q (3, [some (.ref 0), some (.int x1)], [], 1, 6) (I, J, sm_rf 21 d)
      refine sm_W.run (sm_C_mono D) 7 (G := True) (fr' := (10, [some (.ref 0), some (.int x1)], [.int x1, .int (I 9 0), .ref 21], 1, 6)) (M' := (I, J, sm_rf 21 d)) rfl trivial ?_
      obtain ⟨r2, hc, h⟩ := sd_q1_go h
      refine sm_W.cal (sm_C_mono D) (y := 4) (as := [.ref 21, .int (I 9 0), .int x1]) (fr' := (11, [some (.ref 0), some (.int x1)], [], 1, 6)) rfl (T_Choir_sparable (by omega) (by decide) hc ?_)
      show sm_W sm_sh X (sm_C sm_sh X sm_P D) me_123 Q (11, [some (.ref 0), some (.int x1)], [.int r2], 1, 6) (I, J, sm_rf 21 d)
      cases h
      exact sm_W.ret (sm_C_mono D) rfl (hQ1 _ rfl)
    · refine sm_W.cal (sm_C_mono D) (y := 152) (as := [.ref 0, .int x1]) (fr' := (3, [some (.ref 0), some (.int x1)], [], 1, 6)) rfl (T_VM_checkPiece (by omega) (by decide) hc (fun _ e => by cases e) (fun _ e => ?_))
      cases e
      cases h
      exact ⟨rfl, hQ2 _ rfl⟩
  · skip
    refine sm_W.run (sm_C_mono D) 2 (G := True) (fr' := (2, [some (.ref 0), some (.int x1)], [.int x1, .ref 0], 0, 0)) (M' := (I, J, sm_rf 41 d)) rfl trivial ?_
    rcases sd_t1_go h with ⟨r1, hc, h⟩ | ⟨r1, hc, h⟩
    · refine sm_W.cal (sm_C_mono D) (y := 152) (as := [.ref 0, .int x1]) (fr' := (3, [some (.ref 0), some (.int x1)], [], 1, 6)) rfl (T_VM_checkPiece (by omega) (by decide) hc (fun _ e => ?_) (fun _ e => by cases e))
      cases e
      show sm_W sm_sh X (sm_C sm_sh X sm_P D) me_123 Q (3, [some (.ref 0), some (.int x1)], [], 1, 6) (I, J, sm_rf 41 d)
      refine sm_W.run (sm_C_mono D) 7 (G := True) (fr' := (10, [some (.ref 0), some (.int x1)], [.int x1, .int (I 9 0), .ref 41], 1, 6)) (M' := (I, J, sm_rf 41 d)) rfl trivial ?_
      obtain ⟨r2, hc, h⟩ := sd_q1_go h
      refine sm_W.cal (sm_C_mono D) (y := 4) (as := [.ref 41, .int (I 9 0), .int x1]) (fr' := (11, [some (.ref 0), some (.int x1)], [], 1, 6)) rfl (T_Choir_sparable (by omega) (by decide) hc ?_)
      show sm_W sm_sh X (sm_C sm_sh X sm_P D) me_123 Q (11, [some (.ref 0), some (.int x1)], [.int r2], 1, 6) (I, J, sm_rf 41 d)
      cases h
      exact sm_W.ret (sm_C_mono D) rfl (hQ1 _ rfl)
    · refine sm_W.cal (sm_C_mono D) (y := 152) (as := [.ref 0, .int x1]) (fr' := (3, [some (.ref 0), some (.int x1)], [], 1, 6)) rfl (T_VM_checkPiece (by omega) (by decide) hc (fun _ e => by cases e) (fun _ e => ?_))
      cases e
      cases h
      exact ⟨rfl, hQ2 _ rfl⟩
theorem T_VM_spare {X : Nat × (Nat → Int32)} {t d D : Nat} {Q : sm_Q} {I : sm_MI} {J : sm_MJ} {x1 : Int32} {rz : (Int32 ⊕ Nat)}
    (hD : 4 ≤ D) (ht : t = 21 ∨ t = 41) (h : F_VM_spare t x1 I = some (rz)) (hQ1 : ∀ v, rz = .inl v → Q (.inl (some (.int v))) (I, J, sm_rf t d)) (hQ2 : ∀ E, rz = .inr E → Q (.inr E) (I, J, sm_rf t d)) : sm_C sm_sh X sm_P D 123 [.ref 0, .int x1] (I, J, sm_rf t d) Q := by
  cases D with
  | zero => omega
  | succ D => exact sm_C.of (me := me_123) (L := [some (.ref 0), some (.int x1)]) rfl rfl rfl (sm_W.forget (L' := [some (.ref 0), some (.int x1)]) ⟨rfl, ⟨rfl, trivial⟩⟩ (G_VM_spare (by omega) ht h hQ1 hQ2))
-- 124 VM_keys
noncomputable def F_VM_keys (t : Nat) (I : sm_MI) : Option (Int32) :=
  sd_q1 (F_Choir_keySingers t (I 9 0) I) fun r1 =>
  some (r1)
theorem G_VM_keys {X : Nat × (Nat → Int32)} {t d D : Nat} {Q : sm_Q} {I : sm_MI} {J : sm_MJ} {rz : Int32}
    (hD : 4 ≤ D) (ht : t = 21 ∨ t = 41) (h : F_VM_keys t I = some (rz)) (hQ : Q (.inl (some (.int rz))) (I, J, sm_rf t d))  : sm_W sm_sh X (sm_C sm_sh X sm_P D) me_124 Q (0, [some (.ref 0)], [], 0, 0) (I, J, sm_rf t d) := by
  unfold F_VM_keys at h
  rcases ht with rfl | rfl
  · skip
    refine sm_W.run (sm_C_mono D) 6 (G := True) (fr' := (6, [some (.ref 0)], [.int (I 9 0), .ref 21], 0, 0)) (M' := (I, J, sm_rf 21 d)) rfl trivial ?_
    obtain ⟨r1, hc, h⟩ := sd_q1_go h
    refine sm_W.cal (sm_C_mono D) (y := 5) (as := [.ref 21, .int (I 9 0)]) (fr' := (7, [some (.ref 0)], [], 0, 0)) rfl (T_Choir_keySingers (by omega) (by decide) hc ?_)
    show sm_W sm_sh X (sm_C sm_sh X sm_P D) me_124 Q (7, [some (.ref 0)], [.int r1], 0, 0) (I, J, sm_rf 21 d)
    cases h
    exact sm_W.ret (sm_C_mono D) rfl hQ
  · skip
    refine sm_W.run (sm_C_mono D) 6 (G := True) (fr' := (6, [some (.ref 0)], [.int (I 9 0), .ref 41], 0, 0)) (M' := (I, J, sm_rf 41 d)) rfl trivial ?_
    obtain ⟨r1, hc, h⟩ := sd_q1_go h
    refine sm_W.cal (sm_C_mono D) (y := 5) (as := [.ref 41, .int (I 9 0)]) (fr' := (7, [some (.ref 0)], [], 0, 0)) rfl (T_Choir_keySingers (by omega) (by decide) hc ?_)
    show sm_W sm_sh X (sm_C sm_sh X sm_P D) me_124 Q (7, [some (.ref 0)], [.int r1], 0, 0) (I, J, sm_rf 41 d)
    cases h
    exact sm_W.ret (sm_C_mono D) rfl hQ
theorem T_VM_keys {X : Nat × (Nat → Int32)} {t d D : Nat} {Q : sm_Q} {I : sm_MI} {J : sm_MJ} {rz : Int32}
    (hD : 5 ≤ D) (ht : t = 21 ∨ t = 41) (h : F_VM_keys t I = some (rz)) (hQ : Q (.inl (some (.int rz))) (I, J, sm_rf t d)) : sm_C sm_sh X sm_P D 124 [.ref 0] (I, J, sm_rf t d) Q := by
  cases D with
  | zero => omega
  | succ D => exact sm_C.of (me := me_124) (L := [some (.ref 0)]) rfl rfl rfl (sm_W.forget (L' := [some (.ref 0)]) ⟨rfl, trivial⟩ (G_VM_keys (by omega) ht h hQ))
-- 125 VM_ransom
noncomputable def F_VM_ransom (t : Nat) (x1 : Int32) (I : sm_MI) : Option ((Int32 ⊕ Nat)) :=
  sd_t1 (F_VM_checkPiece t x1 I) (fun r1 =>
    sd_q1 (F_Choir_ransomed t x1 I) fun r2 =>
    some (.inl r2))
    (fun r1 => some (.inr r1))
theorem G_VM_ransom {X : Nat × (Nat → Int32)} {t d D : Nat} {Q : sm_Q} {I : sm_MI} {J : sm_MJ} {x1 : Int32} {rz : (Int32 ⊕ Nat)}
    (hD : 3 ≤ D) (ht : t = 21 ∨ t = 41) (h : F_VM_ransom t x1 I = some (rz)) (hQ1 : ∀ v, rz = .inl v → Q (.inl (some (.int v))) (I, J, sm_rf t d)) (hQ2 : ∀ E, rz = .inr E → Q (.inr E) (I, J, sm_rf t d))  : sm_W sm_sh X (sm_C sm_sh X sm_P D) me_125 Q (0, [some (.ref 0), some (.int x1)], [], 0, 0) (I, J, sm_rf t d) := by
  unfold F_VM_ransom at h
  rcases ht with rfl | rfl
  · skip
    refine sm_W.run (sm_C_mono D) 2 (G := True) (fr' := (2, [some (.ref 0), some (.int x1)], [.int x1, .ref 0], 0, 0)) (M' := (I, J, sm_rf 21 d)) rfl trivial ?_
    rcases sd_t1_go h with ⟨r1, hc, h⟩ | ⟨r1, hc, h⟩
    · refine sm_W.cal (sm_C_mono D) (y := 152) (as := [.ref 0, .int x1]) (fr' := (3, [some (.ref 0), some (.int x1)], [], 1, 6)) rfl (T_VM_checkPiece (by omega) (by decide) hc (fun _ e => ?_) (fun _ e => by cases e))
      cases e
      show sm_W sm_sh X (sm_C sm_sh X sm_P D) me_125 Q (3, [some (.ref 0), some (.int x1)], [], 1, 6) (I, J, sm_rf 21 d)
      refine sm_W.run (sm_C_mono D) 6 (G := True) (fr' := (9, [some (.ref 0), some (.int x1)], [.int x1, .ref 9, .ref 21], 1, 6)) (M' := (I, J, sm_rf 21 d)) rfl trivial ?_
      obtain ⟨r2, hc, h⟩ := sd_q1_go h
      refine sm_W.cal (sm_C_mono D) (y := 6) (as := [.ref 21, .ref 9, .int x1]) (fr' := (10, [some (.ref 0), some (.int x1)], [], 1, 6)) rfl (T_Choir_ransomed (by omega) (by decide) hc ?_)
      show sm_W sm_sh X (sm_C sm_sh X sm_P D) me_125 Q (10, [some (.ref 0), some (.int x1)], [.int r2], 1, 6) (I, J, sm_rf 21 d)
      cases h
      exact sm_W.ret (sm_C_mono D) rfl (hQ1 _ rfl)
    · refine sm_W.cal (sm_C_mono D) (y := 152) (as := [.ref 0, .int x1]) (fr' := (3, [some (.ref 0), some (.int x1)], [], 1, 6)) rfl (T_VM_checkPiece (by omega) (by decide) hc (fun _ e => by cases e) (fun _ e => ?_))
      cases e
      cases h
      exact ⟨rfl, hQ2 _ rfl⟩
  · skip
    refine sm_W.run (sm_C_mono D) 2 (G := True) (fr' := (2, [some (.ref 0), some (.int x1)], [.int x1, .ref 0], 0, 0)) (M' := (I, J, sm_rf 41 d)) rfl trivial ?_
    rcases sd_t1_go h with ⟨r1, hc, h⟩ | ⟨r1, hc, h⟩
    · refine sm_W.cal (sm_C_mono D) (y := 152) (as := [.ref 0, .int x1]) (fr' := (3, [some (.ref 0), some (.int x1)], [], 1, 6)) rfl (T_VM_checkPiece (by omega) (by decide) hc (fun _ e => ?_) (fun _ e => by cases e))
      cases e
      show sm_W sm_sh X (sm_C sm_sh X sm_P D) me_125 Q (3, [some (.ref 0), some (.int x1)], [], 1, 6) (I, J, sm_rf 41 d)
      refine sm_W.run (sm_C_mono D) 6 (G := True) (fr' := (9, [some (.ref 0), some (.int x1)], [.int x1, .ref 9, .ref 41], 1, 6)) (M' := (I, J, sm_rf 41 d)) rfl trivial ?_
      obtain ⟨r2, hc, h⟩ := sd_q1_go h
      refine sm_W.cal (sm_C_mono D) (y := 6) (as := [.ref 41, .ref 9, .int x1]) (fr' := (10, [some (.ref 0), some (.int x1)], [], 1, 6)) rfl (T_Choir_ransomed (by omega) (by decide) hc ?_)
      show sm_W sm_sh X (sm_C sm_sh X sm_P D) me_125 Q (10, [some (.ref 0), some (.int x1)], [.int r2], 1, 6) (I, J, sm_rf 41 d)
      cases h
      exact sm_W.ret (sm_C_mono D) rfl (hQ1 _ rfl)
    · refine sm_W.cal (sm_C_mono D) (y := 152) (as := [.ref 0, .int x1]) (fr' := (3, [some (.ref 0), some (.int x1)], [], 1, 6)) rfl (T_VM_checkPiece (by omega) (by decide) hc (fun _ e => by cases e) (fun _ e => ?_))
      cases e
      cases h
      exact ⟨rfl, hQ2 _ rfl⟩
theorem T_VM_ransom {X : Nat × (Nat → Int32)} {t d D : Nat} {Q : sm_Q} {I : sm_MI} {J : sm_MJ} {x1 : Int32} {rz : (Int32 ⊕ Nat)}
    (hD : 4 ≤ D) (ht : t = 21 ∨ t = 41) (h : F_VM_ransom t x1 I = some (rz)) (hQ1 : ∀ v, rz = .inl v → Q (.inl (some (.int v))) (I, J, sm_rf t d)) (hQ2 : ∀ E, rz = .inr E → Q (.inr E) (I, J, sm_rf t d)) : sm_C sm_sh X sm_P D 125 [.ref 0, .int x1] (I, J, sm_rf t d) Q := by
  cases D with
  | zero => omega
  | succ D => exact sm_C.of (me := me_125) (L := [some (.ref 0), some (.int x1)]) rfl rfl rfl (sm_W.forget (L' := [some (.ref 0), some (.int x1)]) ⟨rfl, ⟨rfl, trivial⟩⟩ (G_VM_ransom (by omega) ht h hQ1 hQ2))
-- 126 VM_bargain
noncomputable def F_VM_bargain (t : Nat) (I : sm_MI) : Option (Int32) :=
  sd_q1 (F_Choir_bestExchange t I) fun r1 =>
  some (r1)
theorem G_VM_bargain {X : Nat × (Nat → Int32)} {t d D : Nat} {Q : sm_Q} {I : sm_MI} {J : sm_MJ} {rz : Int32}
    (hD : 4 ≤ D) (ht : t = 21 ∨ t = 41) (h : F_VM_bargain t I = some (rz)) (hQ : Q (.inl (some (.int rz))) (I, J, sm_rf t d))  : sm_W sm_sh X (sm_C sm_sh X sm_P D) me_126 Q (0, [some (.ref 0)], [], 0, 0) (I, J, sm_rf t d) := by
  unfold F_VM_bargain at h
  rcases ht with rfl | rfl
  · skip
    refine sm_W.run (sm_C_mono D) 5 (G := True) (fr' := (5, [some (.ref 0)], [.ref 9, .ref 21], 0, 0)) (M' := (I, J, sm_rf 21 d)) rfl trivial ?_
    obtain ⟨r1, hc, h⟩ := sd_q1_go h
    refine sm_W.cal (sm_C_mono D) (y := 7) (as := [.ref 21, .ref 9]) (fr' := (6, [some (.ref 0)], [], 0, 0)) rfl (T_Choir_bestExchange (by omega) (by decide) hc ?_)
    show sm_W sm_sh X (sm_C sm_sh X sm_P D) me_126 Q (6, [some (.ref 0)], [.int r1], 0, 0) (I, J, sm_rf 21 d)
    cases h
    exact sm_W.ret (sm_C_mono D) rfl hQ
  · skip
    refine sm_W.run (sm_C_mono D) 5 (G := True) (fr' := (5, [some (.ref 0)], [.ref 9, .ref 41], 0, 0)) (M' := (I, J, sm_rf 41 d)) rfl trivial ?_
    obtain ⟨r1, hc, h⟩ := sd_q1_go h
    refine sm_W.cal (sm_C_mono D) (y := 7) (as := [.ref 41, .ref 9]) (fr' := (6, [some (.ref 0)], [], 0, 0)) rfl (T_Choir_bestExchange (by omega) (by decide) hc ?_)
    show sm_W sm_sh X (sm_C sm_sh X sm_P D) me_126 Q (6, [some (.ref 0)], [.int r1], 0, 0) (I, J, sm_rf 41 d)
    cases h
    exact sm_W.ret (sm_C_mono D) rfl hQ
theorem T_VM_bargain {X : Nat × (Nat → Int32)} {t d D : Nat} {Q : sm_Q} {I : sm_MI} {J : sm_MJ} {rz : Int32}
    (hD : 5 ≤ D) (ht : t = 21 ∨ t = 41) (h : F_VM_bargain t I = some (rz)) (hQ : Q (.inl (some (.int rz))) (I, J, sm_rf t d)) : sm_C sm_sh X sm_P D 126 [.ref 0] (I, J, sm_rf t d) Q := by
  cases D with
  | zero => omega
  | succ D => exact sm_C.of (me := me_126) (L := [some (.ref 0)]) rfl rfl rfl (sm_W.forget (L' := [some (.ref 0)]) ⟨rfl, trivial⟩ (G_VM_bargain (by omega) ht h hQ))
-- 127 VM_duet
noncomputable def F_VM_duet_9B (t : Nat) (k2 : Int32 → Option (Int32)) (k9 : Int32 → Int32 → Option (Int32)) (x1 : Int32) (x2 : Int32) (I : sm_MI) : Option (Int32) :=
  if (5 : Int32) ≤ x2 then
    k2 (x1 + (1 : Int32))
  else
    sd_q1 (F_Choir_together t (I 9 0) (((1 : Int32) <<< (x1 &&& 31)) ||| ((1 : Int32) <<< (x2 &&& 31))) I) fun r1 =>
    if r1 = 0 then
      k9 x1 (x2 + (1 : Int32))
    else
      some ((((10 : Int32) * x1) + x2))
noncomputable def F_VM_duet_9 (t : Nat) (k2 : Int32 → Option (Int32)) (I : sm_MI) (n : Nat) : Int32 → Int32 → Option (Int32) :=
  sd_fix (fun k x1 x2 => F_VM_duet_9B t k2 k x1 x2 I) (fun _ _ => none) n
noncomputable def F_VM_duet_2B (t : Nat) (k2 : Int32 → Option (Int32)) (x1 : Int32) (I : sm_MI) : Option (Int32) :=
  if (5 : Int32) ≤ x1 then
    some ((-1 : Int32))
  else
    sd_lt (x1 + (1 : Int32)) fun a1 =>
    F_VM_duet_9 t k2 I sd_fu x1 a1
noncomputable def F_VM_duet_2 (t : Nat) (I : sm_MI) (n : Nat) : Int32 → Option (Int32) :=
  sd_fix (fun k x1 => F_VM_duet_2B t k x1 I) (fun _ => none) n
noncomputable def F_VM_duet (t : Nat) (I : sm_MI) : Option (Int32) :=
  F_VM_duet_2 t I sd_fu (0 : Int32)
theorem G_VM_duet_9B {X : Nat × (Nat → Int32)} {t d D : Nat} {Q : sm_Q} {I : sm_MI} {J : sm_MJ} {k2 : Int32 → Option (Int32)} {k9 : Int32 → Int32 → Option (Int32)} {x1 : Int32} {x2 : Int32} {rz : Int32}
    (hD : 4 ≤ D) (ht : t = 21 ∨ t = 41) (h : F_VM_duet_9B t k2 k9 x1 x2 I = some (rz)) (hQ : Q (.inl (some (.int rz))) (I, J, sm_rf t d)) (hk2 : ∀ (x1 : Int32), k2 x1 = some (rz) → sm_W sm_sh X (sm_C sm_sh X sm_P D) me_127 Q (2, [some (.ref 0), some (.int x1), none], [], 0, 0) (I, J, sm_rf t d)) (hk9 : ∀ (x1 : Int32) (x2 : Int32), k9 x1 x2 = some (rz) → sm_W sm_sh X (sm_C sm_sh X sm_P D) me_127 Q (9, [some (.ref 0), some (.int x1), some (.int x2)], [], 0, 0) (I, J, sm_rf t d)) : sm_W sm_sh X (sm_C sm_sh X sm_P D) me_127 Q (9, [some (.ref 0), some (.int x1), some (.int x2)], [], 0, 0) (I, J, sm_rf t d) := by
  unfold F_VM_duet_9B at h
  rcases ht with rfl | rfl
  · skip
    refine sm_W.run (sm_C_mono D) 3 (G := True) (fr' := (if decide ((5 : Int32) ≤ x2) = true then 35 else 12, [some (.ref 0), some (.int x1), some (.int x2)], [], 0, 0)) (M' := (I, J, sm_rf 21 d)) rfl trivial (sm_W.iteD h (fun hc h => ?_) (fun hc h => ?_))
    · refine sm_W.run (sm_C_mono D) 2 (G := True) (fr' := (2, [some (.ref 0), some (.int (x1 + (1 : Int32))), some (.int x2)], [], 0, 0)) (M' := (I, J, sm_rf 21 d)) rfl trivial ?_
      exact sm_W.forget (L' := [some (.ref 0), some (.int (x1 + (1 : Int32))), none]) ⟨rfl, ⟨rfl, trivial⟩⟩ (hk2 _ h)
    · refine sm_W.run (sm_C_mono D) 13 (G := True) (fr' := (25, [some (.ref 0), some (.int x1), some (.int x2)], [.int (((1 : Int32) <<< (x1 &&& 31)) ||| ((1 : Int32) <<< (x2 &&& 31))), .int (I 9 0), .ref 21], 0, 0)) (M' := (I, J, sm_rf 21 d)) rfl trivial ?_
      obtain ⟨r1, hc, h⟩ := sd_q1_go h
      refine sm_W.cal (sm_C_mono D) (y := 8) (as := [.ref 21, .int (I 9 0), .int (((1 : Int32) <<< (x1 &&& 31)) ||| ((1 : Int32) <<< (x2 &&& 31)))]) (fr' := (26, [some (.ref 0), some (.int x1), some (.int x2)], [], 0, 0)) rfl (T_Choir_together (by omega) (by decide) hc ?_)
      show sm_W sm_sh X (sm_C sm_sh X sm_P D) me_127 Q (26, [some (.ref 0), some (.int x1), some (.int x2)], [.int r1], 0, 0) (I, J, sm_rf 21 d)
      refine sm_W.run (sm_C_mono D) 1 (G := True) (fr' := (if decide (r1 = 0) = true then 33 else 27, [some (.ref 0), some (.int x1), some (.int x2)], [], 0, 0)) (M' := (I, J, sm_rf 21 d)) rfl trivial (sm_W.iteD h (fun hc h => ?_) (fun hc h => ?_))
      · refine sm_W.run (sm_C_mono D) 2 (G := True) (fr' := (9, [some (.ref 0), some (.int x1), some (.int (x2 + (1 : Int32)))], [], 0, 0)) (M' := (I, J, sm_rf 21 d)) rfl trivial ?_
        exact (hk9 _ _ h)
      · refine sm_W.run (sm_C_mono D) 5 (G := True) (fr' := (32, [some (.ref 0), some (.int x1), some (.int x2)], [.int (((10 : Int32) * x1) + x2)], 0, 0)) (M' := (I, J, sm_rf 21 d)) rfl trivial ?_
        cases h
        exact sm_W.ret (sm_C_mono D) rfl hQ
  · skip
    refine sm_W.run (sm_C_mono D) 3 (G := True) (fr' := (if decide ((5 : Int32) ≤ x2) = true then 35 else 12, [some (.ref 0), some (.int x1), some (.int x2)], [], 0, 0)) (M' := (I, J, sm_rf 41 d)) rfl trivial (sm_W.iteD h (fun hc h => ?_) (fun hc h => ?_))
    · refine sm_W.run (sm_C_mono D) 2 (G := True) (fr' := (2, [some (.ref 0), some (.int (x1 + (1 : Int32))), some (.int x2)], [], 0, 0)) (M' := (I, J, sm_rf 41 d)) rfl trivial ?_
      exact sm_W.forget (L' := [some (.ref 0), some (.int (x1 + (1 : Int32))), none]) ⟨rfl, ⟨rfl, trivial⟩⟩ (hk2 _ h)
    · refine sm_W.run (sm_C_mono D) 13 (G := True) (fr' := (25, [some (.ref 0), some (.int x1), some (.int x2)], [.int (((1 : Int32) <<< (x1 &&& 31)) ||| ((1 : Int32) <<< (x2 &&& 31))), .int (I 9 0), .ref 41], 0, 0)) (M' := (I, J, sm_rf 41 d)) rfl trivial ?_
      obtain ⟨r1, hc, h⟩ := sd_q1_go h
      refine sm_W.cal (sm_C_mono D) (y := 8) (as := [.ref 41, .int (I 9 0), .int (((1 : Int32) <<< (x1 &&& 31)) ||| ((1 : Int32) <<< (x2 &&& 31)))]) (fr' := (26, [some (.ref 0), some (.int x1), some (.int x2)], [], 0, 0)) rfl (T_Choir_together (by omega) (by decide) hc ?_)
      show sm_W sm_sh X (sm_C sm_sh X sm_P D) me_127 Q (26, [some (.ref 0), some (.int x1), some (.int x2)], [.int r1], 0, 0) (I, J, sm_rf 41 d)
      refine sm_W.run (sm_C_mono D) 1 (G := True) (fr' := (if decide (r1 = 0) = true then 33 else 27, [some (.ref 0), some (.int x1), some (.int x2)], [], 0, 0)) (M' := (I, J, sm_rf 41 d)) rfl trivial (sm_W.iteD h (fun hc h => ?_) (fun hc h => ?_))
      · refine sm_W.run (sm_C_mono D) 2 (G := True) (fr' := (9, [some (.ref 0), some (.int x1), some (.int (x2 + (1 : Int32)))], [], 0, 0)) (M' := (I, J, sm_rf 41 d)) rfl trivial ?_
        exact (hk9 _ _ h)
      · refine sm_W.run (sm_C_mono D) 5 (G := True) (fr' := (32, [some (.ref 0), some (.int x1), some (.int x2)], [.int (((10 : Int32) * x1) + x2)], 0, 0)) (M' := (I, J, sm_rf 41 d)) rfl trivial ?_
        cases h
        exact sm_W.ret (sm_C_mono D) rfl hQ
theorem G_VM_duet_9 {X : Nat × (Nat → Int32)} {t d D : Nat} {Q : sm_Q} {I : sm_MI} {J : sm_MJ} {k2 : Int32 → Option (Int32)} {rz : Int32}
    (hD : 4 ≤ D) (ht : t = 21 ∨ t = 41) (hQ : Q (.inl (some (.int rz))) (I, J, sm_rf t d)) (hk2 : ∀ (x1 : Int32), k2 x1 = some (rz) → sm_W sm_sh X (sm_C sm_sh X sm_P D) me_127 Q (2, [some (.ref 0), some (.int x1), none], [], 0, 0) (I, J, sm_rf t d)) : ∀ (n : Nat) (x1 : Int32) (x2 : Int32), F_VM_duet_9 t k2 I n x1 x2 = some (rz) → sm_W sm_sh X (sm_C sm_sh X sm_P D) me_127 Q (9, [some (.ref 0), some (.int x1), some (.int x2)], [], 0, 0) (I, J, sm_rf t d) := by
  intro n
  induction n with
  | zero => intro x1 x2 h; cases (show (none : Option (Int32)) = some (rz) from h)
  | succ n ih => intro x1 x2 h; exact G_VM_duet_9B hD ht (show F_VM_duet_9B t k2 (F_VM_duet_9 t k2 I n) x1 x2 I = some (rz) from h) hQ hk2 ih
theorem G_VM_duet_2B {X : Nat × (Nat → Int32)} {t d D : Nat} {Q : sm_Q} {I : sm_MI} {J : sm_MJ} {k2 : Int32 → Option (Int32)} {x1 : Int32} {rz : Int32}
    (hD : 4 ≤ D) (ht : t = 21 ∨ t = 41) (h : F_VM_duet_2B t k2 x1 I = some (rz)) (hQ : Q (.inl (some (.int rz))) (I, J, sm_rf t d)) (hk2 : ∀ (x1 : Int32), k2 x1 = some (rz) → sm_W sm_sh X (sm_C sm_sh X sm_P D) me_127 Q (2, [some (.ref 0), some (.int x1), none], [], 0, 0) (I, J, sm_rf t d)) : sm_W sm_sh X (sm_C sm_sh X sm_P D) me_127 Q (2, [some (.ref 0), some (.int x1), none], [], 0, 0) (I, J, sm_rf t d) := by
  unfold F_VM_duet_2B at h
  rcases ht with rfl | rfl
  · skip
    refine sm_W.run (sm_C_mono D) 3 (G := True) (fr' := (if decide ((5 : Int32) ≤ x1) = true then 37 else 5, [some (.ref 0), some (.int x1), none], [], 0, 0)) (M' := (I, J, sm_rf 21 d)) rfl trivial (sm_W.iteD h (fun hc h => ?_) (fun hc h => ?_))
    · refine sm_W.run (sm_C_mono D) 1 (G := True) (fr' := (38, [some (.ref 0), some (.int x1), none], [.int (-1 : Int32)], 0, 0)) (M' := (I, J, sm_rf 21 d)) rfl trivial ?_
      cases h
      exact sm_W.ret (sm_C_mono D) rfl hQ
    · refine sm_W.runL (sm_C_mono D) 4 (G := True) (e := (x1 + (1 : Int32))) (fr' := fun a1 => (9, [some (.ref 0), some (.int x1), some (.int a1)], [], 0, 0)) (M' := fun _ => (I, J, sm_rf 21 d)) rfl h trivial (fun a1 h => ?_)
      exact (G_VM_duet_9 hD (by decide) hQ hk2 sd_fu _ _ h)
  · skip
    refine sm_W.run (sm_C_mono D) 3 (G := True) (fr' := (if decide ((5 : Int32) ≤ x1) = true then 37 else 5, [some (.ref 0), some (.int x1), none], [], 0, 0)) (M' := (I, J, sm_rf 41 d)) rfl trivial (sm_W.iteD h (fun hc h => ?_) (fun hc h => ?_))
    · refine sm_W.run (sm_C_mono D) 1 (G := True) (fr' := (38, [some (.ref 0), some (.int x1), none], [.int (-1 : Int32)], 0, 0)) (M' := (I, J, sm_rf 41 d)) rfl trivial ?_
      cases h
      exact sm_W.ret (sm_C_mono D) rfl hQ
    · refine sm_W.runL (sm_C_mono D) 4 (G := True) (e := (x1 + (1 : Int32))) (fr' := fun a1 => (9, [some (.ref 0), some (.int x1), some (.int a1)], [], 0, 0)) (M' := fun _ => (I, J, sm_rf 41 d)) rfl h trivial (fun a1 h => ?_)
      exact (G_VM_duet_9 hD (by decide) hQ hk2 sd_fu _ _ h)
theorem G_VM_duet_2 {X : Nat × (Nat → Int32)} {t d D : Nat} {Q : sm_Q} {I : sm_MI} {J : sm_MJ} {rz : Int32}
    (hD : 4 ≤ D) (ht : t = 21 ∨ t = 41) (hQ : Q (.inl (some (.int rz))) (I, J, sm_rf t d))  : ∀ (n : Nat) (x1 : Int32), F_VM_duet_2 t I n x1 = some (rz) → sm_W sm_sh X (sm_C sm_sh X sm_P D) me_127 Q (2, [some (.ref 0), some (.int x1), none], [], 0, 0) (I, J, sm_rf t d) := by
  intro n
  induction n with
  | zero => intro x1 h; cases (show (none : Option (Int32)) = some (rz) from h)
  | succ n ih => intro x1 h; exact G_VM_duet_2B hD ht (show F_VM_duet_2B t (F_VM_duet_2 t I n) x1 I = some (rz) from h) hQ  ih
theorem G_VM_duet {X : Nat × (Nat → Int32)} {t d D : Nat} {Q : sm_Q} {I : sm_MI} {J : sm_MJ} {rz : Int32}
    (hD : 4 ≤ D) (ht : t = 21 ∨ t = 41) (h : F_VM_duet t I = some (rz)) (hQ : Q (.inl (some (.int rz))) (I, J, sm_rf t d))  : sm_W sm_sh X (sm_C sm_sh X sm_P D) me_127 Q (0, [some (.ref 0), none, none], [], 0, 0) (I, J, sm_rf t d) := by
  unfold F_VM_duet at h
  rcases ht with rfl | rfl
  · skip
    refine sm_W.run (sm_C_mono D) 2 (G := True) (fr' := (2, [some (.ref 0), some (.int (0 : Int32)), none], [], 0, 0)) (M' := (I, J, sm_rf 21 d)) rfl trivial ?_
    exact (G_VM_duet_2 hD (by decide) hQ sd_fu _ h)
  · skip
    refine sm_W.run (sm_C_mono D) 2 (G := True) (fr' := (2, [some (.ref 0), some (.int (0 : Int32)), none], [], 0, 0)) (M' := (I, J, sm_rf 41 d)) rfl trivial ?_
    exact (G_VM_duet_2 hD (by decide) hQ sd_fu _ h)
theorem T_VM_duet {X : Nat × (Nat → Int32)} {t d D : Nat} {Q : sm_Q} {I : sm_MI} {J : sm_MJ} {rz : Int32}
    (hD : 5 ≤ D) (ht : t = 21 ∨ t = 41) (h : F_VM_duet t I = some (rz)) (hQ : Q (.inl (some (.int rz))) (I, J, sm_rf t d)) : sm_C sm_sh X sm_P D 127 [.ref 0] (I, J, sm_rf t d) Q := by
  cases D with
  | zero => omega
  | succ D => exact sm_C.of (me := me_127) (L := [some (.ref 0), none, none]) rfl rfl rfl (sm_W.forget (L' := [some (.ref 0), none, none]) ⟨rfl, trivial⟩ (G_VM_duet (by omega) ht h hQ))
-- 128 VM_evening
noncomputable def F_VM_evening_15 (t : Nat) (k4 : Int32 → Int32 → Option (Int32)) (x1 : Int32) (x2 : Int32) (s0 : Int32) (I : sm_MI) : Option (Int32) :=
  if s0 = 0 then
    k4 x1 (x2 + (1 : Int32))
  else
    sd_q1 (F_Choir_together t (I 9 0) x2 I) fun r1 =>
    if r1 = 0 then
      k4 x1 (x2 + (1 : Int32))
    else
      k4 x2 (x2 + (1 : Int32))
noncomputable def F_VM_evening_4B (t : Nat) (k4 : Int32 → Int32 → Option (Int32)) (x1 : Int32) (x2 : Int32) (I : sm_MI) : Option (Int32) :=
  if (32 : Int32) ≤ x2 then
    some (x1)
  else
    sd_q1 (F_Int_bitCount x2) fun r1 =>
    sd_q1 (F_Int_bitCount x1) fun r2 =>
    if r1 ≤ r2 then
      F_VM_evening_15 t k4 x1 x2 (0 : Int32) I
    else
      F_VM_evening_15 t k4 x1 x2 (1 : Int32) I
noncomputable def F_VM_evening_4 (t : Nat) (I : sm_MI) (n : Nat) : Int32 → Int32 → Option (Int32) :=
  sd_fix (fun k x1 x2 => F_VM_evening_4B t k x1 x2 I) (fun _ _ => none) n
noncomputable def F_VM_evening (t : Nat) (I : sm_MI) : Option (Int32) :=
  F_VM_evening_4 t I sd_fu (0 : Int32) (1 : Int32)
theorem G_VM_evening_15 {X : Nat × (Nat → Int32)} {t d D : Nat} {Q : sm_Q} {I : sm_MI} {J : sm_MJ} {k4 : Int32 → Int32 → Option (Int32)} {x1 : Int32} {x2 : Int32} {s0 : Int32} {rz : Int32}
    (hD : 4 ≤ D) (ht : t = 21 ∨ t = 41) (h : F_VM_evening_15 t k4 x1 x2 s0 I = some (rz)) (hQ : Q (.inl (some (.int rz))) (I, J, sm_rf t d)) (hk4 : ∀ (x1 : Int32) (x2 : Int32), k4 x1 x2 = some (rz) → sm_W sm_sh X (sm_C sm_sh X sm_P D) me_128 Q (4, [some (.ref 0), some (.int x1), some (.int x2), none], [], 0, 0) (I, J, sm_rf t d)) : sm_W sm_sh X (sm_C sm_sh X sm_P D) me_128 Q (15, [some (.ref 0), some (.int x1), some (.int x2), none], [.int s0], 0, 0) (I, J, sm_rf t d) := by
  unfold F_VM_evening_15 at h
  rcases ht with rfl | rfl
  · skip
    refine sm_W.run (sm_C_mono D) 3 (G := True) (fr' := (if decide (s0 = 0) = true then 29 else 18, [some (.ref 0), some (.int x1), some (.int x2), some (.int s0)], [], 0, 0)) (M' := (I, J, sm_rf 21 d)) rfl trivial (sm_W.iteD h (fun hc h => ?_) (fun hc h => ?_))
    · refine sm_W.run (sm_C_mono D) 2 (G := True) (fr' := (4, [some (.ref 0), some (.int x1), some (.int (x2 + (1 : Int32))), some (.int s0)], [], 0, 0)) (M' := (I, J, sm_rf 21 d)) rfl trivial ?_
      exact sm_W.forget (L' := [some (.ref 0), some (.int x1), some (.int (x2 + (1 : Int32))), none]) ⟨rfl, ⟨rfl, ⟨rfl, trivial⟩⟩⟩ (hk4 _ _ h)
    · refine sm_W.run (sm_C_mono D) 7 (G := True) (fr' := (25, [some (.ref 0), some (.int x1), some (.int x2), some (.int s0)], [.int x2, .int (I 9 0), .ref 21], 0, 0)) (M' := (I, J, sm_rf 21 d)) rfl trivial ?_
      obtain ⟨r1, hc, h⟩ := sd_q1_go h
      refine sm_W.cal (sm_C_mono D) (y := 8) (as := [.ref 21, .int (I 9 0), .int x2]) (fr' := (26, [some (.ref 0), some (.int x1), some (.int x2), some (.int s0)], [], 0, 0)) rfl (T_Choir_together (by omega) (by decide) hc ?_)
      show sm_W sm_sh X (sm_C sm_sh X sm_P D) me_128 Q (26, [some (.ref 0), some (.int x1), some (.int x2), some (.int s0)], [.int r1], 0, 0) (I, J, sm_rf 21 d)
      refine sm_W.run (sm_C_mono D) 1 (G := True) (fr' := (if decide (r1 = 0) = true then 29 else 27, [some (.ref 0), some (.int x1), some (.int x2), some (.int s0)], [], 0, 0)) (M' := (I, J, sm_rf 21 d)) rfl trivial (sm_W.iteD h (fun hc h => ?_) (fun hc h => ?_))
      · refine sm_W.run (sm_C_mono D) 2 (G := True) (fr' := (4, [some (.ref 0), some (.int x1), some (.int (x2 + (1 : Int32))), some (.int s0)], [], 0, 0)) (M' := (I, J, sm_rf 21 d)) rfl trivial ?_
        exact sm_W.forget (L' := [some (.ref 0), some (.int x1), some (.int (x2 + (1 : Int32))), none]) ⟨rfl, ⟨rfl, ⟨rfl, trivial⟩⟩⟩ (hk4 _ _ h)
      · refine sm_W.run (sm_C_mono D) 4 (G := True) (fr' := (4, [some (.ref 0), some (.int x2), some (.int (x2 + (1 : Int32))), some (.int s0)], [], 0, 0)) (M' := (I, J, sm_rf 21 d)) rfl trivial ?_
        exact sm_W.forget (L' := [some (.ref 0), some (.int x2), some (.int (x2 + (1 : Int32))), none]) ⟨rfl, ⟨rfl, ⟨rfl, trivial⟩⟩⟩ (hk4 _ _ h)
  · skip
    refine sm_W.run (sm_C_mono D) 3 (G := True) (fr' := (if decide (s0 = 0) = true then 29 else 18, [some (.ref 0), some (.int x1), some (.int x2), some (.int s0)], [], 0, 0)) (M' := (I, J, sm_rf 41 d)) rfl trivial (sm_W.iteD h (fun hc h => ?_) (fun hc h => ?_))
    · refine sm_W.run (sm_C_mono D) 2 (G := True) (fr' := (4, [some (.ref 0), some (.int x1), some (.int (x2 + (1 : Int32))), some (.int s0)], [], 0, 0)) (M' := (I, J, sm_rf 41 d)) rfl trivial ?_
      exact sm_W.forget (L' := [some (.ref 0), some (.int x1), some (.int (x2 + (1 : Int32))), none]) ⟨rfl, ⟨rfl, ⟨rfl, trivial⟩⟩⟩ (hk4 _ _ h)
    · refine sm_W.run (sm_C_mono D) 7 (G := True) (fr' := (25, [some (.ref 0), some (.int x1), some (.int x2), some (.int s0)], [.int x2, .int (I 9 0), .ref 41], 0, 0)) (M' := (I, J, sm_rf 41 d)) rfl trivial ?_
      obtain ⟨r1, hc, h⟩ := sd_q1_go h
      refine sm_W.cal (sm_C_mono D) (y := 8) (as := [.ref 41, .int (I 9 0), .int x2]) (fr' := (26, [some (.ref 0), some (.int x1), some (.int x2), some (.int s0)], [], 0, 0)) rfl (T_Choir_together (by omega) (by decide) hc ?_)
      show sm_W sm_sh X (sm_C sm_sh X sm_P D) me_128 Q (26, [some (.ref 0), some (.int x1), some (.int x2), some (.int s0)], [.int r1], 0, 0) (I, J, sm_rf 41 d)
      refine sm_W.run (sm_C_mono D) 1 (G := True) (fr' := (if decide (r1 = 0) = true then 29 else 27, [some (.ref 0), some (.int x1), some (.int x2), some (.int s0)], [], 0, 0)) (M' := (I, J, sm_rf 41 d)) rfl trivial (sm_W.iteD h (fun hc h => ?_) (fun hc h => ?_))
      · refine sm_W.run (sm_C_mono D) 2 (G := True) (fr' := (4, [some (.ref 0), some (.int x1), some (.int (x2 + (1 : Int32))), some (.int s0)], [], 0, 0)) (M' := (I, J, sm_rf 41 d)) rfl trivial ?_
        exact sm_W.forget (L' := [some (.ref 0), some (.int x1), some (.int (x2 + (1 : Int32))), none]) ⟨rfl, ⟨rfl, ⟨rfl, trivial⟩⟩⟩ (hk4 _ _ h)
      · refine sm_W.run (sm_C_mono D) 4 (G := True) (fr' := (4, [some (.ref 0), some (.int x2), some (.int (x2 + (1 : Int32))), some (.int s0)], [], 0, 0)) (M' := (I, J, sm_rf 41 d)) rfl trivial ?_
        exact sm_W.forget (L' := [some (.ref 0), some (.int x2), some (.int (x2 + (1 : Int32))), none]) ⟨rfl, ⟨rfl, ⟨rfl, trivial⟩⟩⟩ (hk4 _ _ h)
theorem G_VM_evening_4B {X : Nat × (Nat → Int32)} {t d D : Nat} {Q : sm_Q} {I : sm_MI} {J : sm_MJ} {k4 : Int32 → Int32 → Option (Int32)} {x1 : Int32} {x2 : Int32} {rz : Int32}
    (hD : 4 ≤ D) (ht : t = 21 ∨ t = 41) (h : F_VM_evening_4B t k4 x1 x2 I = some (rz)) (hQ : Q (.inl (some (.int rz))) (I, J, sm_rf t d)) (hk4 : ∀ (x1 : Int32) (x2 : Int32), k4 x1 x2 = some (rz) → sm_W sm_sh X (sm_C sm_sh X sm_P D) me_128 Q (4, [some (.ref 0), some (.int x1), some (.int x2), none], [], 0, 0) (I, J, sm_rf t d)) : sm_W sm_sh X (sm_C sm_sh X sm_P D) me_128 Q (4, [some (.ref 0), some (.int x1), some (.int x2), none], [], 0, 0) (I, J, sm_rf t d) := by
  unfold F_VM_evening_4B at h
  rcases ht with rfl | rfl
  · skip
    refine sm_W.run (sm_C_mono D) 3 (G := True) (fr' := (if decide ((32 : Int32) ≤ x2) = true then 31 else 7, [some (.ref 0), some (.int x1), some (.int x2), none], [], 0, 0)) (M' := (I, J, sm_rf 21 d)) rfl trivial (sm_W.iteD h (fun hc h => ?_) (fun hc h => ?_))
    · refine sm_W.run (sm_C_mono D) 1 (G := True) (fr' := (32, [some (.ref 0), some (.int x1), some (.int x2), none], [.int x1], 0, 0)) (M' := (I, J, sm_rf 21 d)) rfl trivial ?_
      cases h
      exact sm_W.ret (sm_C_mono D) rfl hQ
    · refine sm_W.run (sm_C_mono D) 1 (G := True) (fr' := (8, [some (.ref 0), some (.int x1), some (.int x2), none], [.int x2], 0, 0)) (M' := (I, J, sm_rf 21 d)) rfl trivial ?_
      obtain ⟨r1, hc, h⟩ := sd_q1_go h
      refine sm_W.cal (sm_C_mono D) (y := 268) (as := [.int x2]) (fr' := (9, [some (.ref 0), some (.int x1), some (.int x2), none], [], 0, 0)) rfl (T_Int_bitCount (by omega) hc ?_)
      show sm_W sm_sh X (sm_C sm_sh X sm_P D) me_128 Q (9, [some (.ref 0), some (.int x1), some (.int x2), none], [.int r1], 0, 0) (I, J, sm_rf 21 d)
      refine sm_W.run (sm_C_mono D) 1 (G := True) (fr' := (10, [some (.ref 0), some (.int x1), some (.int x2), none], [.int x1, .int r1], 0, 0)) (M' := (I, J, sm_rf 21 d)) rfl trivial ?_
      obtain ⟨r2, hc, h⟩ := sd_q1_go h
      refine sm_W.cal (sm_C_mono D) (y := 268) (as := [.int x1]) (fr' := (11, [some (.ref 0), some (.int x1), some (.int x2), none], [.int r1], 0, 0)) rfl (T_Int_bitCount (by omega) hc ?_)
      show sm_W sm_sh X (sm_C sm_sh X sm_P D) me_128 Q (11, [some (.ref 0), some (.int x1), some (.int x2), none], [.int r2, .int r1], 0, 0) (I, J, sm_rf 21 d)
      refine sm_W.run (sm_C_mono D) 1 (G := True) (fr' := (if decide (r1 ≤ r2) = true then 14 else 12, [some (.ref 0), some (.int x1), some (.int x2), none], [], 0, 0)) (M' := (I, J, sm_rf 21 d)) rfl trivial (sm_W.iteD h (fun hc h => ?_) (fun hc h => ?_))
      · refine sm_W.run (sm_C_mono D) 1 (G := True) (fr' := (15, [some (.ref 0), some (.int x1), some (.int x2), none], [.int (0 : Int32)], 0, 0)) (M' := (I, J, sm_rf 21 d)) rfl trivial ?_
        exact (G_VM_evening_15 hD (by decide) h hQ hk4)
      · refine sm_W.run (sm_C_mono D) 2 (G := True) (fr' := (15, [some (.ref 0), some (.int x1), some (.int x2), none], [.int (1 : Int32)], 0, 0)) (M' := (I, J, sm_rf 21 d)) rfl trivial ?_
        exact (G_VM_evening_15 hD (by decide) h hQ hk4)
  · skip
    refine sm_W.run (sm_C_mono D) 3 (G := True) (fr' := (if decide ((32 : Int32) ≤ x2) = true then 31 else 7, [some (.ref 0), some (.int x1), some (.int x2), none], [], 0, 0)) (M' := (I, J, sm_rf 41 d)) rfl trivial (sm_W.iteD h (fun hc h => ?_) (fun hc h => ?_))
    · refine sm_W.run (sm_C_mono D) 1 (G := True) (fr' := (32, [some (.ref 0), some (.int x1), some (.int x2), none], [.int x1], 0, 0)) (M' := (I, J, sm_rf 41 d)) rfl trivial ?_
      cases h
      exact sm_W.ret (sm_C_mono D) rfl hQ
    · refine sm_W.run (sm_C_mono D) 1 (G := True) (fr' := (8, [some (.ref 0), some (.int x1), some (.int x2), none], [.int x2], 0, 0)) (M' := (I, J, sm_rf 41 d)) rfl trivial ?_
      obtain ⟨r1, hc, h⟩ := sd_q1_go h
      refine sm_W.cal (sm_C_mono D) (y := 268) (as := [.int x2]) (fr' := (9, [some (.ref 0), some (.int x1), some (.int x2), none], [], 0, 0)) rfl (T_Int_bitCount (by omega) hc ?_)
      show sm_W sm_sh X (sm_C sm_sh X sm_P D) me_128 Q (9, [some (.ref 0), some (.int x1), some (.int x2), none], [.int r1], 0, 0) (I, J, sm_rf 41 d)
      refine sm_W.run (sm_C_mono D) 1 (G := True) (fr' := (10, [some (.ref 0), some (.int x1), some (.int x2), none], [.int x1, .int r1], 0, 0)) (M' := (I, J, sm_rf 41 d)) rfl trivial ?_
      obtain ⟨r2, hc, h⟩ := sd_q1_go h
      refine sm_W.cal (sm_C_mono D) (y := 268) (as := [.int x1]) (fr' := (11, [some (.ref 0), some (.int x1), some (.int x2), none], [.int r1], 0, 0)) rfl (T_Int_bitCount (by omega) hc ?_)
      show sm_W sm_sh X (sm_C sm_sh X sm_P D) me_128 Q (11, [some (.ref 0), some (.int x1), some (.int x2), none], [.int r2, .int r1], 0, 0) (I, J, sm_rf 41 d)
      refine sm_W.run (sm_C_mono D) 1 (G := True) (fr' := (if decide (r1 ≤ r2) = true then 14 else 12, [some (.ref 0), some (.int x1), some (.int x2), none], [], 0, 0)) (M' := (I, J, sm_rf 41 d)) rfl trivial (sm_W.iteD h (fun hc h => ?_) (fun hc h => ?_))
      · refine sm_W.run (sm_C_mono D) 1 (G := True) (fr' := (15, [some (.ref 0), some (.int x1), some (.int x2), none], [.int (0 : Int32)], 0, 0)) (M' := (I, J, sm_rf 41 d)) rfl trivial ?_
        exact (G_VM_evening_15 hD (by decide) h hQ hk4)
      · refine sm_W.run (sm_C_mono D) 2 (G := True) (fr' := (15, [some (.ref 0), some (.int x1), some (.int x2), none], [.int (1 : Int32)], 0, 0)) (M' := (I, J, sm_rf 41 d)) rfl trivial ?_
        exact (G_VM_evening_15 hD (by decide) h hQ hk4)
theorem G_VM_evening_4 {X : Nat × (Nat → Int32)} {t d D : Nat} {Q : sm_Q} {I : sm_MI} {J : sm_MJ} {rz : Int32}
    (hD : 4 ≤ D) (ht : t = 21 ∨ t = 41) (hQ : Q (.inl (some (.int rz))) (I, J, sm_rf t d))  : ∀ (n : Nat) (x1 : Int32) (x2 : Int32), F_VM_evening_4 t I n x1 x2 = some (rz) → sm_W sm_sh X (sm_C sm_sh X sm_P D) me_128 Q (4, [some (.ref 0), some (.int x1), some (.int x2), none], [], 0, 0) (I, J, sm_rf t d) := by
  intro n
  induction n with
  | zero => intro x1 x2 h; cases (show (none : Option (Int32)) = some (rz) from h)
  | succ n ih => intro x1 x2 h; exact G_VM_evening_4B hD ht (show F_VM_evening_4B t (F_VM_evening_4 t I n) x1 x2 I = some (rz) from h) hQ  ih
theorem G_VM_evening {X : Nat × (Nat → Int32)} {t d D : Nat} {Q : sm_Q} {I : sm_MI} {J : sm_MJ} {rz : Int32}
    (hD : 4 ≤ D) (ht : t = 21 ∨ t = 41) (h : F_VM_evening t I = some (rz)) (hQ : Q (.inl (some (.int rz))) (I, J, sm_rf t d))  : sm_W sm_sh X (sm_C sm_sh X sm_P D) me_128 Q (0, [some (.ref 0), none, none, none], [], 0, 0) (I, J, sm_rf t d) := by
  unfold F_VM_evening at h
  rcases ht with rfl | rfl
  · skip
    refine sm_W.run (sm_C_mono D) 4 (G := True) (fr' := (4, [some (.ref 0), some (.int (0 : Int32)), some (.int (1 : Int32)), none], [], 0, 0)) (M' := (I, J, sm_rf 21 d)) rfl trivial ?_
    exact (G_VM_evening_4 hD (by decide) hQ sd_fu _ _ h)
  · skip
    refine sm_W.run (sm_C_mono D) 4 (G := True) (fr' := (4, [some (.ref 0), some (.int (0 : Int32)), some (.int (1 : Int32)), none], [], 0, 0)) (M' := (I, J, sm_rf 41 d)) rfl trivial ?_
    exact (G_VM_evening_4 hD (by decide) hQ sd_fu _ _ h)
theorem T_VM_evening {X : Nat × (Nat → Int32)} {t d D : Nat} {Q : sm_Q} {I : sm_MI} {J : sm_MJ} {rz : Int32}
    (hD : 5 ≤ D) (ht : t = 21 ∨ t = 41) (h : F_VM_evening t I = some (rz)) (hQ : Q (.inl (some (.int rz))) (I, J, sm_rf t d)) : sm_C sm_sh X sm_P D 128 [.ref 0] (I, J, sm_rf t d) Q := by
  cases D with
  | zero => omega
  | succ D => exact sm_C.of (me := me_128) (L := [some (.ref 0), none, none, none]) rfl rfl rfl (sm_W.forget (L' := [some (.ref 0), none, none, none]) ⟨rfl, trivial⟩ (G_VM_evening (by omega) ht h hQ))
