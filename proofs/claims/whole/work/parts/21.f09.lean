/-! ===== printed by wip/gen/emit_parts.py: what the methods compute ===== -/
-- 129 VM_cast
noncomputable def F_VM_cast (t : Nat) (x1 : Int32) (x2 : Int32) (I : sm_MI) : Option ((Int32 ⊕ Nat)) :=
  sd_t1 (F_VM_checkPiece t x1 I) (fun r1 =>
    if x2 < 0 then
      some (.inr 1)
    else
      if x2 ≤ (1 : Int32) then
        sd_q1 (F_Valley_canBeSung t x1 (I 9 0) I) fun r2 =>
        if ¬ r2 = 0 then
          sd_q1 (F_Choir_bestCast t (I 9 0) x1 I) fun r3 =>
          if ¬ x2 = 0 then
            sd_q1 (F_Valley_skillsOf t r3 I) fun r4 =>
            some (.inl r4)
          else
            some (.inl r3)
        else
          some (.inl (-1 : Int32))
      else
        some (.inr 1))
    (fun r1 => some (.inr r1))
theorem G_VM_cast {X : Nat × (Nat → Int32)} {t d D : Nat} {Q : sm_Q} {I : sm_MI} {J : sm_MJ} {x1 : Int32} {x2 : Int32} {rz : (Int32 ⊕ Nat)}
    (hD : 2 ≤ D) (ht : t = 21 ∨ t = 41) (h : F_VM_cast t x1 x2 I = some (rz)) (hQ1 : ∀ v, rz = .inl v → Q (.inl (some (.int v))) (I, J, sm_rf t d)) (hQ2 : ∀ E, rz = .inr E → Q (.inr E) (I, J, sm_rf t d))  : sm_W sm_sh X (sm_C sm_sh X sm_P D) me_129 Q (0, [some (.ref 0), some (.int x1), some (.int x2), none], [], 0, 0) (I, J, sm_rf t d) := by
  unfold F_VM_cast at h
  rcases ht with rfl | rfl
  · skip
    refine sm_W.run (sm_C_mono D) 2 (G := True) (fr' := (2, [some (.ref 0), some (.int x1), some (.int x2), none], [.int x1, .ref 0], 0, 0)) (M' := (I, J, sm_rf 21 d)) rfl trivial ?_
    rcases sd_t1_go h with ⟨r1, hc, h⟩ | ⟨r1, hc, h⟩
    · refine sm_W.cal (sm_C_mono D) (y := 152) (as := [.ref 0, .int x1]) (fr' := (3, [some (.ref 0), some (.int x1), some (.int x2), none], [], 1, 6)) rfl (T_VM_checkPiece (by omega) (by decide) hc (fun _ e => ?_) (fun _ e => by cases e))
      cases e
      show sm_W sm_sh X (sm_C sm_sh X sm_P D) me_129 Q (3, [some (.ref 0), some (.int x1), some (.int x2), none], [], 1, 6) (I, J, sm_rf 21 d)
      refine sm_W.run (sm_C_mono D) 2 (G := True) (fr' := (if decide (x2 < 0) = true then 8 else 5, [some (.ref 0), some (.int x1), some (.int x2), none], [], 1, 6)) (M' := (I, J, sm_rf 21 d)) rfl trivial (sm_W.iteD h (fun hc h => ?_) (fun hc h => ?_))
      · cases h
        exact sm_W.thr (sm_C_mono D) rfl (hQ2 _ rfl)
      · refine sm_W.run (sm_C_mono D) 3 (G := True) (fr' := (if decide (x2 ≤ (1 : Int32)) = true then 13 else 8, [some (.ref 0), some (.int x1), some (.int x2), none], [], 1, 6)) (M' := (I, J, sm_rf 21 d)) rfl trivial (sm_W.iteD h (fun hc h => ?_) (fun hc h => ?_))
        · refine sm_W.run (sm_C_mono D) 7 (G := True) (fr' := (20, [some (.ref 0), some (.int x1), some (.int x2), none], [.int (I 9 0), .int x1, .ref 21], 1, 6)) (M' := (I, J, sm_rf 21 d)) rfl trivial ?_
          obtain ⟨r2, hc, h⟩ := sd_q1_go h
          refine sm_W.cal (sm_C_mono D) (y := 88) (as := [.ref 21, .int x1, .int (I 9 0)]) (fr' := (21, [some (.ref 0), some (.int x1), some (.int x2), none], [], 1, 6)) rfl (T_Valley_canBeSung (by omega) (by decide) hc ?_)
          show sm_W sm_sh X (sm_C sm_sh X sm_P D) me_129 Q (21, [some (.ref 0), some (.int x1), some (.int x2), none], [.int r2], 1, 6) (I, J, sm_rf 21 d)
          refine sm_W.run (sm_C_mono D) 1 (G := True) (fr' := (if decide (¬ r2 = 0) = true then 24 else 22, [some (.ref 0), some (.int x1), some (.int x2), none], [], 1, 6)) (M' := (I, J, sm_rf 21 d)) rfl trivial (sm_W.iteD h (fun hc h => ?_) (fun hc h => ?_))
          · refine sm_W.run (sm_C_mono D) 7 (G := True) (fr' := (31, [some (.ref 0), some (.int x1), some (.int x2), none], [.int x1, .int (I 9 0), .ref 21], 1, 6)) (M' := (I, J, sm_rf 21 d)) rfl trivial ?_
            obtain ⟨r3, hc, h⟩ := sd_q1_go h
            refine sm_W.cal (sm_C_mono D) (y := 10) (as := [.ref 21, .int (I 9 0), .int x1]) (fr' := (32, [some (.ref 0), some (.int x1), some (.int x2), none], [], 1, 6)) rfl (T_Choir_bestCast (by omega) (by decide) hc ?_)
            show sm_W sm_sh X (sm_C sm_sh X sm_P D) me_129 Q (32, [some (.ref 0), some (.int x1), some (.int x2), none], [.int r3], 1, 6) (I, J, sm_rf 21 d)
            refine sm_W.run (sm_C_mono D) 3 (G := True) (fr' := (if decide (¬ x2 = 0) = true then 37 else 35, [some (.ref 0), some (.int x1), some (.int x2), some (.int r3)], [], 1, 6)) (M' := (I, J, sm_rf 21 d)) rfl trivial (sm_W.iteD h (fun hc h => ?_) (fun hc h => ?_))
            · refine sm_W.run (sm_C_mono D) 3 (G := True) (fr' := (40, [some (.ref 0), some (.int x1), some (.int x2), some (.int r3)], [.int r3, .ref 21], 1, 6)) (M' := (I, J, sm_rf 21 d)) rfl trivial ?_
              obtain ⟨r4, hc, h⟩ := sd_q1_go h
              refine sm_W.cal (sm_C_mono D) (y := 86) (as := [.ref 21, .int r3]) (fr' := (41, [some (.ref 0), some (.int x1), some (.int x2), some (.int r3)], [], 1, 6)) rfl (T_Valley_skillsOf (by omega) (by decide) hc ?_)
              show sm_W sm_sh X (sm_C sm_sh X sm_P D) me_129 Q (41, [some (.ref 0), some (.int x1), some (.int x2), some (.int r3)], [.int r4], 1, 6) (I, J, sm_rf 21 d)
              cases h
              exact sm_W.ret (sm_C_mono D) rfl (hQ1 _ rfl)
            · refine sm_W.run (sm_C_mono D) 2 (G := True) (fr' := (41, [some (.ref 0), some (.int x1), some (.int x2), some (.int r3)], [.int r3], 1, 6)) (M' := (I, J, sm_rf 21 d)) rfl trivial ?_
              cases h
              exact sm_W.ret (sm_C_mono D) rfl (hQ1 _ rfl)
          · refine sm_W.run (sm_C_mono D) 1 (G := True) (fr' := (23, [some (.ref 0), some (.int x1), some (.int x2), none], [.int (-1 : Int32)], 1, 6)) (M' := (I, J, sm_rf 21 d)) rfl trivial ?_
            cases h
            exact sm_W.ret (sm_C_mono D) rfl (hQ1 _ rfl)
        · cases h
          exact sm_W.thr (sm_C_mono D) rfl (hQ2 _ rfl)
    · refine sm_W.cal (sm_C_mono D) (y := 152) (as := [.ref 0, .int x1]) (fr' := (3, [some (.ref 0), some (.int x1), some (.int x2), none], [], 1, 6)) rfl (T_VM_checkPiece (by omega) (by decide) hc (fun _ e => by cases e) (fun _ e => ?_))
      cases e
      cases h
      exact ⟨rfl, hQ2 _ rfl⟩
  · skip
    refine sm_W.run (sm_C_mono D) 2 (G := True) (fr' := (2, [some (.ref 0), some (.int x1), some (.int x2), none], [.int x1, .ref 0], 0, 0)) (M' := (I, J, sm_rf 41 d)) rfl trivial ?_
    rcases sd_t1_go h with ⟨r1, hc, h⟩ | ⟨r1, hc, h⟩
    · refine sm_W.cal (sm_C_mono D) (y := 152) (as := [.ref 0, .int x1]) (fr' := (3, [some (.ref 0), some (.int x1), some (.int x2), none], [], 1, 6)) rfl (T_VM_checkPiece (by omega) (by decide) hc (fun _ e => ?_) (fun _ e => by cases e))
      cases e
      show sm_W sm_sh X (sm_C sm_sh X sm_P D) me_129 Q (3, [some (.ref 0), some (.int x1), some (.int x2), none], [], 1, 6) (I, J, sm_rf 41 d)
      refine sm_W.run (sm_C_mono D) 2 (G := True) (fr' := (if decide (x2 < 0) = true then 8 else 5, [some (.ref 0), some (.int x1), some (.int x2), none], [], 1, 6)) (M' := (I, J, sm_rf 41 d)) rfl trivial (sm_W.iteD h (fun hc h => ?_) (fun hc h => ?_))
      · cases h
        exact sm_W.thr (sm_C_mono D) rfl (hQ2 _ rfl)
      · refine sm_W.run (sm_C_mono D) 3 (G := True) (fr' := (if decide (x2 ≤ (1 : Int32)) = true then 13 else 8, [some (.ref 0), some (.int x1), some (.int x2), none], [], 1, 6)) (M' := (I, J, sm_rf 41 d)) rfl trivial (sm_W.iteD h (fun hc h => ?_) (fun hc h => ?_))
        · refine sm_W.run (sm_C_mono D) 7 (G := True) (fr' := (20, [some (.ref 0), some (.int x1), some (.int x2), none], [.int (I 9 0), .int x1, .ref 41], 1, 6)) (M' := (I, J, sm_rf 41 d)) rfl trivial ?_
          obtain ⟨r2, hc, h⟩ := sd_q1_go h
          refine sm_W.cal (sm_C_mono D) (y := 88) (as := [.ref 41, .int x1, .int (I 9 0)]) (fr' := (21, [some (.ref 0), some (.int x1), some (.int x2), none], [], 1, 6)) rfl (T_Valley_canBeSung (by omega) (by decide) hc ?_)
          show sm_W sm_sh X (sm_C sm_sh X sm_P D) me_129 Q (21, [some (.ref 0), some (.int x1), some (.int x2), none], [.int r2], 1, 6) (I, J, sm_rf 41 d)
          refine sm_W.run (sm_C_mono D) 1 (G := True) (fr' := (if decide (¬ r2 = 0) = true then 24 else 22, [some (.ref 0), some (.int x1), some (.int x2), none], [], 1, 6)) (M' := (I, J, sm_rf 41 d)) rfl trivial (sm_W.iteD h (fun hc h => ?_) (fun hc h => ?_))
          · refine sm_W.run (sm_C_mono D) 7 (G := True) (fr' := (31, [some (.ref 0), some (.int x1), some (.int x2), none], [.int x1, .int (I 9 0), .ref 41], 1, 6)) (M' := (I, J, sm_rf 41 d)) rfl trivial ?_
            obtain ⟨r3, hc, h⟩ := sd_q1_go h
            refine sm_W.cal (sm_C_mono D) (y := 10) (as := [.ref 41, .int (I 9 0), .int x1]) (fr' := (32, [some (.ref 0), some (.int x1), some (.int x2), none], [], 1, 6)) rfl (T_Choir_bestCast (by omega) (by decide) hc ?_)
            show sm_W sm_sh X (sm_C sm_sh X sm_P D) me_129 Q (32, [some (.ref 0), some (.int x1), some (.int x2), none], [.int r3], 1, 6) (I, J, sm_rf 41 d)
            refine sm_W.run (sm_C_mono D) 3 (G := True) (fr' := (if decide (¬ x2 = 0) = true then 37 else 35, [some (.ref 0), some (.int x1), some (.int x2), some (.int r3)], [], 1, 6)) (M' := (I, J, sm_rf 41 d)) rfl trivial (sm_W.iteD h (fun hc h => ?_) (fun hc h => ?_))
            · refine sm_W.run (sm_C_mono D) 3 (G := True) (fr' := (40, [some (.ref 0), some (.int x1), some (.int x2), some (.int r3)], [.int r3, .ref 41], 1, 6)) (M' := (I, J, sm_rf 41 d)) rfl trivial ?_
              obtain ⟨r4, hc, h⟩ := sd_q1_go h
              refine sm_W.cal (sm_C_mono D) (y := 86) (as := [.ref 41, .int r3]) (fr' := (41, [some (.ref 0), some (.int x1), some (.int x2), some (.int r3)], [], 1, 6)) rfl (T_Valley_skillsOf (by omega) (by decide) hc ?_)
              show sm_W sm_sh X (sm_C sm_sh X sm_P D) me_129 Q (41, [some (.ref 0), some (.int x1), some (.int x2), some (.int r3)], [.int r4], 1, 6) (I, J, sm_rf 41 d)
              cases h
              exact sm_W.ret (sm_C_mono D) rfl (hQ1 _ rfl)
            · refine sm_W.run (sm_C_mono D) 2 (G := True) (fr' := (41, [some (.ref 0), some (.int x1), some (.int x2), some (.int r3)], [.int r3], 1, 6)) (M' := (I, J, sm_rf 41 d)) rfl trivial ?_
              cases h
              exact sm_W.ret (sm_C_mono D) rfl (hQ1 _ rfl)
          · refine sm_W.run (sm_C_mono D) 1 (G := True) (fr' := (23, [some (.ref 0), some (.int x1), some (.int x2), none], [.int (-1 : Int32)], 1, 6)) (M' := (I, J, sm_rf 41 d)) rfl trivial ?_
            cases h
            exact sm_W.ret (sm_C_mono D) rfl (hQ1 _ rfl)
        · cases h
          exact sm_W.thr (sm_C_mono D) rfl (hQ2 _ rfl)
    · refine sm_W.cal (sm_C_mono D) (y := 152) (as := [.ref 0, .int x1]) (fr' := (3, [some (.ref 0), some (.int x1), some (.int x2), none], [], 1, 6)) rfl (T_VM_checkPiece (by omega) (by decide) hc (fun _ e => by cases e) (fun _ e => ?_))
      cases e
      cases h
      exact ⟨rfl, hQ2 _ rfl⟩
theorem T_VM_cast {X : Nat × (Nat → Int32)} {t d D : Nat} {Q : sm_Q} {I : sm_MI} {J : sm_MJ} {x1 : Int32} {x2 : Int32} {rz : (Int32 ⊕ Nat)}
    (hD : 3 ≤ D) (ht : t = 21 ∨ t = 41) (h : F_VM_cast t x1 x2 I = some (rz)) (hQ1 : ∀ v, rz = .inl v → Q (.inl (some (.int v))) (I, J, sm_rf t d)) (hQ2 : ∀ E, rz = .inr E → Q (.inr E) (I, J, sm_rf t d)) : sm_C sm_sh X sm_P D 129 [.ref 0, .int x1, .int x2] (I, J, sm_rf t d) Q := by
  cases D with
  | zero => omega
  | succ D => exact sm_C.of (me := me_129) (L := [some (.ref 0), some (.int x1), some (.int x2), none]) rfl rfl rfl (sm_W.forget (L' := [some (.ref 0), some (.int x1), some (.int x2), none]) ⟨rfl, ⟨rfl, ⟨rfl, trivial⟩⟩⟩ (G_VM_cast (by omega) ht h hQ1 hQ2))
-- 130 VM_casts
noncomputable def F_VM_casts (t : Nat) (x1 : Int32) (I : sm_MI) : Option ((Int64 ⊕ Nat)) :=
  sd_t1 (F_VM_checkPiece t x1 I) (fun r1 =>
    sd_q1 (F_Choir_countCasts t (I 9 0) x1 I) fun r2 =>
    some (.inl r2))
    (fun r1 => some (.inr r1))
theorem G_VM_casts {X : Nat × (Nat → Int32)} {t d D : Nat} {Q : sm_Q} {I : sm_MI} {J : sm_MJ} {x1 : Int32} {rz : (Int64 ⊕ Nat)}
    (hD : 3 ≤ D) (ht : t = 21 ∨ t = 41) (h : F_VM_casts t x1 I = some (rz)) (hQ1 : ∀ v, rz = .inl v → Q (.inl (some (.long v))) (I, J, sm_rf t d)) (hQ2 : ∀ E, rz = .inr E → Q (.inr E) (I, J, sm_rf t d))  : sm_W sm_sh X (sm_C sm_sh X sm_P D) me_130 Q (0, [some (.ref 0), some (.int x1)], [], 0, 0) (I, J, sm_rf t d) := by
  unfold F_VM_casts at h
  rcases ht with rfl | rfl
  · skip
    refine sm_W.run (sm_C_mono D) 2 (G := True) (fr' := (2, [some (.ref 0), some (.int x1)], [.int x1, .ref 0], 0, 0)) (M' := (I, J, sm_rf 21 d)) rfl trivial ?_
    rcases sd_t1_go h with ⟨r1, hc, h⟩ | ⟨r1, hc, h⟩
    · refine sm_W.cal (sm_C_mono D) (y := 152) (as := [.ref 0, .int x1]) (fr' := (3, [some (.ref 0), some (.int x1)], [], 1, 6)) rfl (T_VM_checkPiece (by omega) (by decide) hc (fun _ e => ?_) (fun _ e => by cases e))
      cases e
      show sm_W sm_sh X (sm_C sm_sh X sm_P D) me_130 Q (3, [some (.ref 0), some (.int x1)], [], 1, 6) (I, J, sm_rf 21 d)
      refine sm_W.run (sm_C_mono D) 7 (G := True) (fr' := (10, [some (.ref 0), some (.int x1)], [.int x1, .int (I 9 0), .ref 21], 1, 6)) (M' := (I, J, sm_rf 21 d)) rfl trivial ?_
      obtain ⟨r2, hc, h⟩ := sd_q1_go h
      refine sm_W.cal (sm_C_mono D) (y := 12) (as := [.ref 21, .int (I 9 0), .int x1]) (fr' := (11, [some (.ref 0), some (.int x1)], [], 1, 6)) rfl (T_Choir_countCasts (by omega) (by decide) hc ?_)
      show sm_W sm_sh X (sm_C sm_sh X sm_P D) me_130 Q (11, [some (.ref 0), some (.int x1)], [.long r2], 1, 6) (I, J, sm_rf 21 d)
      cases h
      exact sm_W.ret (sm_C_mono D) rfl (hQ1 _ rfl)
    · refine sm_W.cal (sm_C_mono D) (y := 152) (as := [.ref 0, .int x1]) (fr' := (3, [some (.ref 0), some (.int x1)], [], 1, 6)) rfl (T_VM_checkPiece (by omega) (by decide) hc (fun _ e => by cases e) (fun _ e => ?_))
      cases e
      cases h
      exact ⟨rfl, hQ2 _ rfl⟩
  · skip
    refine sm_W.run (sm_C_mono D) 2 (G := True) (fr' := (2, [some (.ref 0), some (.int x1)], [.int x1, .ref 0], 0, 0)) (M' := (I, J, sm_rf 41 d)) rfl trivial ?_
    rcases sd_t1_go h with ⟨r1, hc, h⟩ | ⟨r1, hc, h⟩
    · refine sm_W.cal (sm_C_mono D) (y := 152) (as := [.ref 0, .int x1]) (fr' := (3, [some (.ref 0), some (.int x1)], [], 1, 6)) rfl (T_VM_checkPiece (by omega) (by decide) hc (fun _ e => ?_) (fun _ e => by cases e))
      cases e
      show sm_W sm_sh X (sm_C sm_sh X sm_P D) me_130 Q (3, [some (.ref 0), some (.int x1)], [], 1, 6) (I, J, sm_rf 41 d)
      refine sm_W.run (sm_C_mono D) 7 (G := True) (fr' := (10, [some (.ref 0), some (.int x1)], [.int x1, .int (I 9 0), .ref 41], 1, 6)) (M' := (I, J, sm_rf 41 d)) rfl trivial ?_
      obtain ⟨r2, hc, h⟩ := sd_q1_go h
      refine sm_W.cal (sm_C_mono D) (y := 12) (as := [.ref 41, .int (I 9 0), .int x1]) (fr' := (11, [some (.ref 0), some (.int x1)], [], 1, 6)) rfl (T_Choir_countCasts (by omega) (by decide) hc ?_)
      show sm_W sm_sh X (sm_C sm_sh X sm_P D) me_130 Q (11, [some (.ref 0), some (.int x1)], [.long r2], 1, 6) (I, J, sm_rf 41 d)
      cases h
      exact sm_W.ret (sm_C_mono D) rfl (hQ1 _ rfl)
    · refine sm_W.cal (sm_C_mono D) (y := 152) (as := [.ref 0, .int x1]) (fr' := (3, [some (.ref 0), some (.int x1)], [], 1, 6)) rfl (T_VM_checkPiece (by omega) (by decide) hc (fun _ e => by cases e) (fun _ e => ?_))
      cases e
      cases h
      exact ⟨rfl, hQ2 _ rfl⟩
theorem T_VM_casts {X : Nat × (Nat → Int32)} {t d D : Nat} {Q : sm_Q} {I : sm_MI} {J : sm_MJ} {x1 : Int32} {rz : (Int64 ⊕ Nat)}
    (hD : 4 ≤ D) (ht : t = 21 ∨ t = 41) (h : F_VM_casts t x1 I = some (rz)) (hQ1 : ∀ v, rz = .inl v → Q (.inl (some (.long v))) (I, J, sm_rf t d)) (hQ2 : ∀ E, rz = .inr E → Q (.inr E) (I, J, sm_rf t d)) : sm_C sm_sh X sm_P D 130 [.ref 0, .int x1] (I, J, sm_rf t d) Q := by
  cases D with
  | zero => omega
  | succ D => exact sm_C.of (me := me_130) (L := [some (.ref 0), some (.int x1)]) rfl rfl rfl (sm_W.forget (L' := [some (.ref 0), some (.int x1)]) ⟨rfl, ⟨rfl, trivial⟩⟩ (G_VM_casts (by omega) ht h hQ1 hQ2))
-- 131 VM_transposed
noncomputable def F_VM_transposed_5B (t : Nat) (k5 : Int32 → Int32 → Option ((Int32 ⊕ Nat))) (x1 : Int32) (x2 : Int32) (I : sm_MI) : Option ((Int32 ⊕ Nat)) :=
  if (12 : Int32) < x2 then
    some (.inl (-99 : Int32))
  else
    sd_q1 (F_Choir_canBeSungAt t (I 9 0) x1 (-x2) I) fun r1 =>
    if r1 = 0 then
      sd_q1 (F_Choir_canBeSungAt t (I 9 0) x1 x2 I) fun r2 =>
      if r2 = 0 then
        k5 x1 (x2 + (1 : Int32))
      else
        some (.inl x2)
    else
      some (.inl (-x2))
noncomputable def F_VM_transposed_5 (t : Nat) (I : sm_MI) (n : Nat) : Int32 → Int32 → Option ((Int32 ⊕ Nat)) :=
  sd_fix (fun k x1 x2 => F_VM_transposed_5B t k x1 x2 I) (fun _ _ => none) n
noncomputable def F_VM_transposed (t : Nat) (x1 : Int32) (I : sm_MI) : Option ((Int32 ⊕ Nat)) :=
  sd_t1 (F_VM_checkPiece t x1 I) (fun r1 =>
    F_VM_transposed_5 t I sd_fu x1 (0 : Int32))
    (fun r1 => some (.inr r1))
theorem G_VM_transposed_5B {X : Nat × (Nat → Int32)} {t d D : Nat} {Q : sm_Q} {I : sm_MI} {J : sm_MJ} {k5 : Int32 → Int32 → Option ((Int32 ⊕ Nat))} {x1 : Int32} {x2 : Int32} {rz : (Int32 ⊕ Nat)}
    (hD : 2 ≤ D) (ht : t = 21 ∨ t = 41) (h : F_VM_transposed_5B t k5 x1 x2 I = some (rz)) (hQ1 : ∀ v, rz = .inl v → Q (.inl (some (.int v))) (I, J, sm_rf t d)) (hQ2 : ∀ E, rz = .inr E → Q (.inr E) (I, J, sm_rf t d)) (hk5 : ∀ (x1 : Int32) (x2 : Int32), k5 x1 x2 = some (rz) → sm_W sm_sh X (sm_C sm_sh X sm_P D) me_131 Q (5, [some (.ref 0), some (.int x1), some (.int x2)], [], 1, 6) (I, J, sm_rf t d)) : sm_W sm_sh X (sm_C sm_sh X sm_P D) me_131 Q (5, [some (.ref 0), some (.int x1), some (.int x2)], [], 1, 6) (I, J, sm_rf t d) := by
  unfold F_VM_transposed_5B at h
  rcases ht with rfl | rfl
  · skip
    refine sm_W.run (sm_C_mono D) 3 (G := True) (fr' := (if decide ((12 : Int32) < x2) = true then 36 else 8, [some (.ref 0), some (.int x1), some (.int x2)], [], 1, 6)) (M' := (I, J, sm_rf 21 d)) rfl trivial (sm_W.iteD h (fun hc h => ?_) (fun hc h => ?_))
    · refine sm_W.run (sm_C_mono D) 1 (G := True) (fr' := (37, [some (.ref 0), some (.int x1), some (.int x2)], [.int (-99 : Int32)], 1, 6)) (M' := (I, J, sm_rf 21 d)) rfl trivial ?_
      cases h
      exact sm_W.ret (sm_C_mono D) rfl (hQ1 _ rfl)
    · refine sm_W.run (sm_C_mono D) 9 (G := True) (fr' := (17, [some (.ref 0), some (.int x1), some (.int x2)], [.int (-x2), .int x1, .int (I 9 0), .ref 21], 1, 6)) (M' := (I, J, sm_rf 21 d)) rfl trivial ?_
      obtain ⟨r1, hc, h⟩ := sd_q1_go h
      refine sm_W.cal (sm_C_mono D) (y := 13) (as := [.ref 21, .int (I 9 0), .int x1, .int (-x2)]) (fr' := (18, [some (.ref 0), some (.int x1), some (.int x2)], [], 1, 6)) rfl (T_Choir_canBeSungAt (by omega) (by decide) hc ?_)
      show sm_W sm_sh X (sm_C sm_sh X sm_P D) me_131 Q (18, [some (.ref 0), some (.int x1), some (.int x2)], [.int r1], 1, 6) (I, J, sm_rf 21 d)
      refine sm_W.run (sm_C_mono D) 1 (G := True) (fr' := (if decide (r1 = 0) = true then 22 else 19, [some (.ref 0), some (.int x1), some (.int x2)], [], 1, 6)) (M' := (I, J, sm_rf 21 d)) rfl trivial (sm_W.iteD h (fun hc h => ?_) (fun hc h => ?_))
      · refine sm_W.run (sm_C_mono D) 8 (G := True) (fr' := (30, [some (.ref 0), some (.int x1), some (.int x2)], [.int x2, .int x1, .int (I 9 0), .ref 21], 1, 6)) (M' := (I, J, sm_rf 21 d)) rfl trivial ?_
        obtain ⟨r2, hc, h⟩ := sd_q1_go h
        refine sm_W.cal (sm_C_mono D) (y := 13) (as := [.ref 21, .int (I 9 0), .int x1, .int x2]) (fr' := (31, [some (.ref 0), some (.int x1), some (.int x2)], [], 1, 6)) rfl (T_Choir_canBeSungAt (by omega) (by decide) hc ?_)
        show sm_W sm_sh X (sm_C sm_sh X sm_P D) me_131 Q (31, [some (.ref 0), some (.int x1), some (.int x2)], [.int r2], 1, 6) (I, J, sm_rf 21 d)
        refine sm_W.run (sm_C_mono D) 1 (G := True) (fr' := (if decide (r2 = 0) = true then 34 else 32, [some (.ref 0), some (.int x1), some (.int x2)], [], 1, 6)) (M' := (I, J, sm_rf 21 d)) rfl trivial (sm_W.iteD h (fun hc h => ?_) (fun hc h => ?_))
        · refine sm_W.run (sm_C_mono D) 2 (G := True) (fr' := (5, [some (.ref 0), some (.int x1), some (.int (x2 + (1 : Int32)))], [], 1, 6)) (M' := (I, J, sm_rf 21 d)) rfl trivial ?_
          exact (hk5 _ _ h)
        · refine sm_W.run (sm_C_mono D) 1 (G := True) (fr' := (33, [some (.ref 0), some (.int x1), some (.int x2)], [.int x2], 1, 6)) (M' := (I, J, sm_rf 21 d)) rfl trivial ?_
          cases h
          exact sm_W.ret (sm_C_mono D) rfl (hQ1 _ rfl)
      · refine sm_W.run (sm_C_mono D) 2 (G := True) (fr' := (21, [some (.ref 0), some (.int x1), some (.int x2)], [.int (-x2)], 1, 6)) (M' := (I, J, sm_rf 21 d)) rfl trivial ?_
        cases h
        exact sm_W.ret (sm_C_mono D) rfl (hQ1 _ rfl)
  · skip
    refine sm_W.run (sm_C_mono D) 3 (G := True) (fr' := (if decide ((12 : Int32) < x2) = true then 36 else 8, [some (.ref 0), some (.int x1), some (.int x2)], [], 1, 6)) (M' := (I, J, sm_rf 41 d)) rfl trivial (sm_W.iteD h (fun hc h => ?_) (fun hc h => ?_))
    · refine sm_W.run (sm_C_mono D) 1 (G := True) (fr' := (37, [some (.ref 0), some (.int x1), some (.int x2)], [.int (-99 : Int32)], 1, 6)) (M' := (I, J, sm_rf 41 d)) rfl trivial ?_
      cases h
      exact sm_W.ret (sm_C_mono D) rfl (hQ1 _ rfl)
    · refine sm_W.run (sm_C_mono D) 9 (G := True) (fr' := (17, [some (.ref 0), some (.int x1), some (.int x2)], [.int (-x2), .int x1, .int (I 9 0), .ref 41], 1, 6)) (M' := (I, J, sm_rf 41 d)) rfl trivial ?_
      obtain ⟨r1, hc, h⟩ := sd_q1_go h
      refine sm_W.cal (sm_C_mono D) (y := 13) (as := [.ref 41, .int (I 9 0), .int x1, .int (-x2)]) (fr' := (18, [some (.ref 0), some (.int x1), some (.int x2)], [], 1, 6)) rfl (T_Choir_canBeSungAt (by omega) (by decide) hc ?_)
      show sm_W sm_sh X (sm_C sm_sh X sm_P D) me_131 Q (18, [some (.ref 0), some (.int x1), some (.int x2)], [.int r1], 1, 6) (I, J, sm_rf 41 d)
      refine sm_W.run (sm_C_mono D) 1 (G := True) (fr' := (if decide (r1 = 0) = true then 22 else 19, [some (.ref 0), some (.int x1), some (.int x2)], [], 1, 6)) (M' := (I, J, sm_rf 41 d)) rfl trivial (sm_W.iteD h (fun hc h => ?_) (fun hc h => ?_))
      · refine sm_W.run (sm_C_mono D) 8 (G := True) (fr' := (30, [some (.ref 0), some (.int x1), some (.int x2)], [.int x2, .int x1, .int (I 9 0), .ref 41], 1, 6)) (M' := (I, J, sm_rf 41 d)) rfl trivial ?_
        obtain ⟨r2, hc, h⟩ := sd_q1_go h
        refine sm_W.cal (sm_C_mono D) (y := 13) (as := [.ref 41, .int (I 9 0), .int x1, .int x2]) (fr' := (31, [some (.ref 0), some (.int x1), some (.int x2)], [], 1, 6)) rfl (T_Choir_canBeSungAt (by omega) (by decide) hc ?_)
        show sm_W sm_sh X (sm_C sm_sh X sm_P D) me_131 Q (31, [some (.ref 0), some (.int x1), some (.int x2)], [.int r2], 1, 6) (I, J, sm_rf 41 d)
        refine sm_W.run (sm_C_mono D) 1 (G := True) (fr' := (if decide (r2 = 0) = true then 34 else 32, [some (.ref 0), some (.int x1), some (.int x2)], [], 1, 6)) (M' := (I, J, sm_rf 41 d)) rfl trivial (sm_W.iteD h (fun hc h => ?_) (fun hc h => ?_))
        · refine sm_W.run (sm_C_mono D) 2 (G := True) (fr' := (5, [some (.ref 0), some (.int x1), some (.int (x2 + (1 : Int32)))], [], 1, 6)) (M' := (I, J, sm_rf 41 d)) rfl trivial ?_
          exact (hk5 _ _ h)
        · refine sm_W.run (sm_C_mono D) 1 (G := True) (fr' := (33, [some (.ref 0), some (.int x1), some (.int x2)], [.int x2], 1, 6)) (M' := (I, J, sm_rf 41 d)) rfl trivial ?_
          cases h
          exact sm_W.ret (sm_C_mono D) rfl (hQ1 _ rfl)
      · refine sm_W.run (sm_C_mono D) 2 (G := True) (fr' := (21, [some (.ref 0), some (.int x1), some (.int x2)], [.int (-x2)], 1, 6)) (M' := (I, J, sm_rf 41 d)) rfl trivial ?_
        cases h
        exact sm_W.ret (sm_C_mono D) rfl (hQ1 _ rfl)
theorem G_VM_transposed_5 {X : Nat × (Nat → Int32)} {t d D : Nat} {Q : sm_Q} {I : sm_MI} {J : sm_MJ} {rz : (Int32 ⊕ Nat)}
    (hD : 2 ≤ D) (ht : t = 21 ∨ t = 41) (hQ1 : ∀ v, rz = .inl v → Q (.inl (some (.int v))) (I, J, sm_rf t d)) (hQ2 : ∀ E, rz = .inr E → Q (.inr E) (I, J, sm_rf t d))  : ∀ (n : Nat) (x1 : Int32) (x2 : Int32), F_VM_transposed_5 t I n x1 x2 = some (rz) → sm_W sm_sh X (sm_C sm_sh X sm_P D) me_131 Q (5, [some (.ref 0), some (.int x1), some (.int x2)], [], 1, 6) (I, J, sm_rf t d) := by
  intro n
  induction n with
  | zero => intro x1 x2 h; cases (show (none : Option ((Int32 ⊕ Nat))) = some (rz) from h)
  | succ n ih => intro x1 x2 h; exact G_VM_transposed_5B hD ht (show F_VM_transposed_5B t (F_VM_transposed_5 t I n) x1 x2 I = some (rz) from h) hQ1 hQ2  ih
theorem G_VM_transposed {X : Nat × (Nat → Int32)} {t d D : Nat} {Q : sm_Q} {I : sm_MI} {J : sm_MJ} {x1 : Int32} {rz : (Int32 ⊕ Nat)}
    (hD : 2 ≤ D) (ht : t = 21 ∨ t = 41) (h : F_VM_transposed t x1 I = some (rz)) (hQ1 : ∀ v, rz = .inl v → Q (.inl (some (.int v))) (I, J, sm_rf t d)) (hQ2 : ∀ E, rz = .inr E → Q (.inr E) (I, J, sm_rf t d))  : sm_W sm_sh X (sm_C sm_sh X sm_P D) me_131 Q (0, [some (.ref 0), some (.int x1), none], [], 0, 0) (I, J, sm_rf t d) := by
  unfold F_VM_transposed at h
  rcases ht with rfl | rfl
  · skip
    refine sm_W.run (sm_C_mono D) 2 (G := True) (fr' := (2, [some (.ref 0), some (.int x1), none], [.int x1, .ref 0], 0, 0)) (M' := (I, J, sm_rf 21 d)) rfl trivial ?_
    rcases sd_t1_go h with ⟨r1, hc, h⟩ | ⟨r1, hc, h⟩
    · refine sm_W.cal (sm_C_mono D) (y := 152) (as := [.ref 0, .int x1]) (fr' := (3, [some (.ref 0), some (.int x1), none], [], 1, 6)) rfl (T_VM_checkPiece (by omega) (by decide) hc (fun _ e => ?_) (fun _ e => by cases e))
      cases e
      show sm_W sm_sh X (sm_C sm_sh X sm_P D) me_131 Q (3, [some (.ref 0), some (.int x1), none], [], 1, 6) (I, J, sm_rf 21 d)
      refine sm_W.run (sm_C_mono D) 2 (G := True) (fr' := (5, [some (.ref 0), some (.int x1), some (.int (0 : Int32))], [], 1, 6)) (M' := (I, J, sm_rf 21 d)) rfl trivial ?_
      exact (G_VM_transposed_5 hD (by decide) hQ1 hQ2 sd_fu _ _ h)
    · refine sm_W.cal (sm_C_mono D) (y := 152) (as := [.ref 0, .int x1]) (fr' := (3, [some (.ref 0), some (.int x1), none], [], 1, 6)) rfl (T_VM_checkPiece (by omega) (by decide) hc (fun _ e => by cases e) (fun _ e => ?_))
      cases e
      cases h
      exact ⟨rfl, hQ2 _ rfl⟩
  · skip
    refine sm_W.run (sm_C_mono D) 2 (G := True) (fr' := (2, [some (.ref 0), some (.int x1), none], [.int x1, .ref 0], 0, 0)) (M' := (I, J, sm_rf 41 d)) rfl trivial ?_
    rcases sd_t1_go h with ⟨r1, hc, h⟩ | ⟨r1, hc, h⟩
    · refine sm_W.cal (sm_C_mono D) (y := 152) (as := [.ref 0, .int x1]) (fr' := (3, [some (.ref 0), some (.int x1), none], [], 1, 6)) rfl (T_VM_checkPiece (by omega) (by decide) hc (fun _ e => ?_) (fun _ e => by cases e))
      cases e
      show sm_W sm_sh X (sm_C sm_sh X sm_P D) me_131 Q (3, [some (.ref 0), some (.int x1), none], [], 1, 6) (I, J, sm_rf 41 d)
      refine sm_W.run (sm_C_mono D) 2 (G := True) (fr' := (5, [some (.ref 0), some (.int x1), some (.int (0 : Int32))], [], 1, 6)) (M' := (I, J, sm_rf 41 d)) rfl trivial ?_
      exact (G_VM_transposed_5 hD (by decide) hQ1 hQ2 sd_fu _ _ h)
    · refine sm_W.cal (sm_C_mono D) (y := 152) (as := [.ref 0, .int x1]) (fr' := (3, [some (.ref 0), some (.int x1), none], [], 1, 6)) rfl (T_VM_checkPiece (by omega) (by decide) hc (fun _ e => by cases e) (fun _ e => ?_))
      cases e
      cases h
      exact ⟨rfl, hQ2 _ rfl⟩
theorem T_VM_transposed {X : Nat × (Nat → Int32)} {t d D : Nat} {Q : sm_Q} {I : sm_MI} {J : sm_MJ} {x1 : Int32} {rz : (Int32 ⊕ Nat)}
    (hD : 3 ≤ D) (ht : t = 21 ∨ t = 41) (h : F_VM_transposed t x1 I = some (rz)) (hQ1 : ∀ v, rz = .inl v → Q (.inl (some (.int v))) (I, J, sm_rf t d)) (hQ2 : ∀ E, rz = .inr E → Q (.inr E) (I, J, sm_rf t d)) : sm_C sm_sh X sm_P D 131 [.ref 0, .int x1] (I, J, sm_rf t d) Q := by
  cases D with
  | zero => omega
  | succ D => exact sm_C.of (me := me_131) (L := [some (.ref 0), some (.int x1), none]) rfl rfl rfl (sm_W.forget (L' := [some (.ref 0), some (.int x1), none]) ⟨rfl, ⟨rfl, trivial⟩⟩ (G_VM_transposed (by omega) ht h hQ1 hQ2))
-- 132 VM_lacking
noncomputable def F_VM_lacking (t : Nat) (x1 : Int32) (x2 : Int32) (I : sm_MI) : Option ((Int32 ⊕ Nat)) :=
  sd_t1 (F_VM_checkRow t x1 x2 I) (fun r1 =>
    sd_lt ((x1 * (4 : Int32)) + x2) fun a2 =>
    sd_gu (sm_in a2 20 = true) <|
    if ¬ (I (t + 6) (Int32.toNatClampNeg a2)) = 0 then
      sd_q1 (F_Valley_lackingIn t a2 (I 9 0) I) fun r4 =>
      some (.inl r4)
    else
      some (.inr 1))
    (fun r1 => some (.inr r1))
theorem G_VM_lacking {X : Nat × (Nat → Int32)} {t d D : Nat} {Q : sm_Q} {I : sm_MI} {J : sm_MJ} {x1 : Int32} {x2 : Int32} {rz : (Int32 ⊕ Nat)}
    (hD : 2 ≤ D) (ht : t = 21 ∨ t = 41) (h : F_VM_lacking t x1 x2 I = some (rz)) (hQ1 : ∀ v, rz = .inl v → Q (.inl (some (.int v))) (I, J, sm_rf t d)) (hQ2 : ∀ E, rz = .inr E → Q (.inr E) (I, J, sm_rf t d))  : sm_W sm_sh X (sm_C sm_sh X sm_P D) me_132 Q (0, [some (.ref 0), some (.int x1), some (.int x2), none], [], 0, 0) (I, J, sm_rf t d) := by
  unfold F_VM_lacking at h
  rcases ht with rfl | rfl
  · skip
    refine sm_W.run (sm_C_mono D) 3 (G := True) (fr' := (3, [some (.ref 0), some (.int x1), some (.int x2), none], [.int x2, .int x1, .ref 0], 0, 0)) (M' := (I, J, sm_rf 21 d)) rfl trivial ?_
    rcases sd_t1_go h with ⟨r1, hc, h⟩ | ⟨r1, hc, h⟩
    · refine sm_W.cal (sm_C_mono D) (y := 154) (as := [.ref 0, .int x1, .int x2]) (fr' := (4, [some (.ref 0), some (.int x1), some (.int x2), none], [], 2, 12)) rfl (T_VM_checkRow (by omega) (by decide) hc (fun _ e => ?_) (fun _ e => by cases e))
      cases e
      show sm_W sm_sh X (sm_C sm_sh X sm_P D) me_132 Q (4, [some (.ref 0), some (.int x1), some (.int x2), none], [], 2, 12) (I, J, sm_rf 21 d)
      refine sm_W.runL (sm_C_mono D) 6 (G := True) (e := ((x1 * (4 : Int32)) + x2)) (fr' := fun a2 => (10, [some (.ref 0), some (.int x1), some (.int x2), some (.int a2)], [], 2, 12)) (M' := fun _ => (I, J, sm_rf 21 d)) rfl h trivial (fun a2 h => ?_)
      obtain ⟨g3, h⟩ := sd_gu_go h
      refine sm_W.run (sm_C_mono D) 6 (G := sm_in a2 20 = true ∧ True) (fr' := (if decide (¬ (I (21 + 6) (Int32.toNatClampNeg a2)) = 0) = true then 21 else 16, [some (.ref 0), some (.int x1), some (.int x2), some (.int a2)], [], 2, 12)) (M' := (I, J, sm_rf 21 d)) rfl ⟨g3, trivial⟩ (sm_W.iteD h (fun hc h => ?_) (fun hc h => ?_))
      · refine sm_W.run (sm_C_mono D) 7 (G := True) (fr' := (28, [some (.ref 0), some (.int x1), some (.int x2), some (.int a2)], [.int (I 9 0), .int a2, .ref 21], 2, 12)) (M' := (I, J, sm_rf 21 d)) rfl trivial ?_
        obtain ⟨r4, hc, h⟩ := sd_q1_go h
        refine sm_W.cal (sm_C_mono D) (y := 90) (as := [.ref 21, .int a2, .int (I 9 0)]) (fr' := (29, [some (.ref 0), some (.int x1), some (.int x2), some (.int a2)], [], 2, 12)) rfl (T_Valley_lackingIn (by omega) (by decide) hc ?_)
        show sm_W sm_sh X (sm_C sm_sh X sm_P D) me_132 Q (29, [some (.ref 0), some (.int x1), some (.int x2), some (.int a2)], [.int r4], 2, 12) (I, J, sm_rf 21 d)
        cases h
        exact sm_W.ret (sm_C_mono D) rfl (hQ1 _ rfl)
      · cases h
        exact sm_W.thr (sm_C_mono D) rfl (hQ2 _ rfl)
    · refine sm_W.cal (sm_C_mono D) (y := 154) (as := [.ref 0, .int x1, .int x2]) (fr' := (4, [some (.ref 0), some (.int x1), some (.int x2), none], [], 2, 12)) rfl (T_VM_checkRow (by omega) (by decide) hc (fun _ e => by cases e) (fun _ e => ?_))
      cases e
      cases h
      exact ⟨rfl, hQ2 _ rfl⟩
  · skip
    refine sm_W.run (sm_C_mono D) 3 (G := True) (fr' := (3, [some (.ref 0), some (.int x1), some (.int x2), none], [.int x2, .int x1, .ref 0], 0, 0)) (M' := (I, J, sm_rf 41 d)) rfl trivial ?_
    rcases sd_t1_go h with ⟨r1, hc, h⟩ | ⟨r1, hc, h⟩
    · refine sm_W.cal (sm_C_mono D) (y := 154) (as := [.ref 0, .int x1, .int x2]) (fr' := (4, [some (.ref 0), some (.int x1), some (.int x2), none], [], 2, 12)) rfl (T_VM_checkRow (by omega) (by decide) hc (fun _ e => ?_) (fun _ e => by cases e))
      cases e
      show sm_W sm_sh X (sm_C sm_sh X sm_P D) me_132 Q (4, [some (.ref 0), some (.int x1), some (.int x2), none], [], 2, 12) (I, J, sm_rf 41 d)
      refine sm_W.runL (sm_C_mono D) 6 (G := True) (e := ((x1 * (4 : Int32)) + x2)) (fr' := fun a2 => (10, [some (.ref 0), some (.int x1), some (.int x2), some (.int a2)], [], 2, 12)) (M' := fun _ => (I, J, sm_rf 41 d)) rfl h trivial (fun a2 h => ?_)
      obtain ⟨g3, h⟩ := sd_gu_go h
      refine sm_W.run (sm_C_mono D) 6 (G := sm_in a2 20 = true ∧ True) (fr' := (if decide (¬ (I (41 + 6) (Int32.toNatClampNeg a2)) = 0) = true then 21 else 16, [some (.ref 0), some (.int x1), some (.int x2), some (.int a2)], [], 2, 12)) (M' := (I, J, sm_rf 41 d)) rfl ⟨g3, trivial⟩ (sm_W.iteD h (fun hc h => ?_) (fun hc h => ?_))
      · refine sm_W.run (sm_C_mono D) 7 (G := True) (fr' := (28, [some (.ref 0), some (.int x1), some (.int x2), some (.int a2)], [.int (I 9 0), .int a2, .ref 41], 2, 12)) (M' := (I, J, sm_rf 41 d)) rfl trivial ?_
        obtain ⟨r4, hc, h⟩ := sd_q1_go h
        refine sm_W.cal (sm_C_mono D) (y := 90) (as := [.ref 41, .int a2, .int (I 9 0)]) (fr' := (29, [some (.ref 0), some (.int x1), some (.int x2), some (.int a2)], [], 2, 12)) rfl (T_Valley_lackingIn (by omega) (by decide) hc ?_)
        show sm_W sm_sh X (sm_C sm_sh X sm_P D) me_132 Q (29, [some (.ref 0), some (.int x1), some (.int x2), some (.int a2)], [.int r4], 2, 12) (I, J, sm_rf 41 d)
        cases h
        exact sm_W.ret (sm_C_mono D) rfl (hQ1 _ rfl)
      · cases h
        exact sm_W.thr (sm_C_mono D) rfl (hQ2 _ rfl)
    · refine sm_W.cal (sm_C_mono D) (y := 154) (as := [.ref 0, .int x1, .int x2]) (fr' := (4, [some (.ref 0), some (.int x1), some (.int x2), none], [], 2, 12)) rfl (T_VM_checkRow (by omega) (by decide) hc (fun _ e => by cases e) (fun _ e => ?_))
      cases e
      cases h
      exact ⟨rfl, hQ2 _ rfl⟩
theorem T_VM_lacking {X : Nat × (Nat → Int32)} {t d D : Nat} {Q : sm_Q} {I : sm_MI} {J : sm_MJ} {x1 : Int32} {x2 : Int32} {rz : (Int32 ⊕ Nat)}
    (hD : 3 ≤ D) (ht : t = 21 ∨ t = 41) (h : F_VM_lacking t x1 x2 I = some (rz)) (hQ1 : ∀ v, rz = .inl v → Q (.inl (some (.int v))) (I, J, sm_rf t d)) (hQ2 : ∀ E, rz = .inr E → Q (.inr E) (I, J, sm_rf t d)) : sm_C sm_sh X sm_P D 132 [.ref 0, .int x1, .int x2] (I, J, sm_rf t d) Q := by
  cases D with
  | zero => omega
  | succ D => exact sm_C.of (me := me_132) (L := [some (.ref 0), some (.int x1), some (.int x2), none]) rfl rfl rfl (sm_W.forget (L' := [some (.ref 0), some (.int x1), some (.int x2), none]) ⟨rfl, ⟨rfl, ⟨rfl, trivial⟩⟩⟩ (G_VM_lacking (by omega) ht h hQ1 hQ2))
-- 133 VM_widen
noncomputable def F_VM_widen (t : Nat) (x1 : Int32) (x2 : Int32) (I : sm_MI) : Option ((Int32 ⊕ Nat)) :=
  sd_t1 (F_VM_checkPiece t x1 I) (fun r1 =>
    if x2 < 0 then
      some (.inr 1)
    else
      if x2 ≤ (1 : Int32) then
        sd_q1 (F_Valley_canBeSung t x1 (I 9 0) I) fun r2 =>
        if r2 = 0 then
          sd_q1 (F_Choir_rowLackingOne t (I 9 0) x1 I) fun r3 =>
          if ¬ r3 = (-1 : Int32) then
            sd_q1 (F_Choir_easiestToWiden t (I 9 0) r3 I) fun r4 =>
            if ¬ x2 = 0 then
              some (.inl r4)
            else
              if r4 = (-1 : Int32) then
                some (.inl r4)
              else
                sd_q1 (F_Valley_stretch t r3 r4 I) fun r5 =>
                some (.inl r5)
          else
            some (.inl (-1 : Int32))
        else
          if ¬ x2 = 0 then
            some (.inl (-1 : Int32))
          else
            some (.inl (0 : Int32))
      else
        some (.inr 1))
    (fun r1 => some (.inr r1))
theorem G_VM_widen {X : Nat × (Nat → Int32)} {t d D : Nat} {Q : sm_Q} {I : sm_MI} {J : sm_MJ} {x1 : Int32} {x2 : Int32} {rz : (Int32 ⊕ Nat)}
    (hD : 3 ≤ D) (ht : t = 21 ∨ t = 41) (h : F_VM_widen t x1 x2 I = some (rz)) (hQ1 : ∀ v, rz = .inl v → Q (.inl (some (.int v))) (I, J, sm_rf t d)) (hQ2 : ∀ E, rz = .inr E → Q (.inr E) (I, J, sm_rf t d))  : sm_W sm_sh X (sm_C sm_sh X sm_P D) me_133 Q (0, [some (.ref 0), some (.int x1), some (.int x2), none, none], [], 0, 0) (I, J, sm_rf t d) := by
  unfold F_VM_widen at h
  rcases ht with rfl | rfl
  · skip
    refine sm_W.run (sm_C_mono D) 2 (G := True) (fr' := (2, [some (.ref 0), some (.int x1), some (.int x2), none, none], [.int x1, .ref 0], 0, 0)) (M' := (I, J, sm_rf 21 d)) rfl trivial ?_
    rcases sd_t1_go h with ⟨r1, hc, h⟩ | ⟨r1, hc, h⟩
    · refine sm_W.cal (sm_C_mono D) (y := 152) (as := [.ref 0, .int x1]) (fr' := (3, [some (.ref 0), some (.int x1), some (.int x2), none, none], [], 1, 6)) rfl (T_VM_checkPiece (by omega) (by decide) hc (fun _ e => ?_) (fun _ e => by cases e))
      cases e
      show sm_W sm_sh X (sm_C sm_sh X sm_P D) me_133 Q (3, [some (.ref 0), some (.int x1), some (.int x2), none, none], [], 1, 6) (I, J, sm_rf 21 d)
      refine sm_W.run (sm_C_mono D) 2 (G := True) (fr' := (if decide (x2 < 0) = true then 8 else 5, [some (.ref 0), some (.int x1), some (.int x2), none, none], [], 1, 6)) (M' := (I, J, sm_rf 21 d)) rfl trivial (sm_W.iteD h (fun hc h => ?_) (fun hc h => ?_))
      · cases h
        exact sm_W.thr (sm_C_mono D) rfl (hQ2 _ rfl)
      · refine sm_W.run (sm_C_mono D) 3 (G := True) (fr' := (if decide (x2 ≤ (1 : Int32)) = true then 13 else 8, [some (.ref 0), some (.int x1), some (.int x2), none, none], [], 1, 6)) (M' := (I, J, sm_rf 21 d)) rfl trivial (sm_W.iteD h (fun hc h => ?_) (fun hc h => ?_))
        · refine sm_W.run (sm_C_mono D) 7 (G := True) (fr' := (20, [some (.ref 0), some (.int x1), some (.int x2), none, none], [.int (I 9 0), .int x1, .ref 21], 1, 6)) (M' := (I, J, sm_rf 21 d)) rfl trivial ?_
          obtain ⟨r2, hc, h⟩ := sd_q1_go h
          refine sm_W.cal (sm_C_mono D) (y := 88) (as := [.ref 21, .int x1, .int (I 9 0)]) (fr' := (21, [some (.ref 0), some (.int x1), some (.int x2), none, none], [], 1, 6)) rfl (T_Valley_canBeSung (by omega) (by decide) hc ?_)
          show sm_W sm_sh X (sm_C sm_sh X sm_P D) me_133 Q (21, [some (.ref 0), some (.int x1), some (.int x2), none, none], [.int r2], 1, 6) (I, J, sm_rf 21 d)
          refine sm_W.run (sm_C_mono D) 1 (G := True) (fr' := (if decide (r2 = 0) = true then 28 else 22, [some (.ref 0), some (.int x1), some (.int x2), none, none], [], 1, 6)) (M' := (I, J, sm_rf 21 d)) rfl trivial (sm_W.iteD h (fun hc h => ?_) (fun hc h => ?_))
          · refine sm_W.run (sm_C_mono D) 7 (G := True) (fr' := (35, [some (.ref 0), some (.int x1), some (.int x2), none, none], [.int x1, .int (I 9 0), .ref 21], 1, 6)) (M' := (I, J, sm_rf 21 d)) rfl trivial ?_
            obtain ⟨r3, hc, h⟩ := sd_q1_go h
            refine sm_W.cal (sm_C_mono D) (y := 14) (as := [.ref 21, .int (I 9 0), .int x1]) (fr' := (36, [some (.ref 0), some (.int x1), some (.int x2), none, none], [], 1, 6)) rfl (T_Choir_rowLackingOne (by omega) (by decide) hc ?_)
            show sm_W sm_sh X (sm_C sm_sh X sm_P D) me_133 Q (36, [some (.ref 0), some (.int x1), some (.int x2), none, none], [.int r3], 1, 6) (I, J, sm_rf 21 d)
            refine sm_W.run (sm_C_mono D) 4 (G := True) (fr' := (if decide (¬ r3 = (-1 : Int32)) = true then 42 else 40, [some (.ref 0), some (.int x1), some (.int x2), some (.int r3), none], [], 1, 6)) (M' := (I, J, sm_rf 21 d)) rfl trivial (sm_W.iteD h (fun hc h => ?_) (fun hc h => ?_))
            · refine sm_W.run (sm_C_mono D) 7 (G := True) (fr' := (49, [some (.ref 0), some (.int x1), some (.int x2), some (.int r3), none], [.int r3, .int (I 9 0), .ref 21], 1, 6)) (M' := (I, J, sm_rf 21 d)) rfl trivial ?_
              obtain ⟨r4, hc, h⟩ := sd_q1_go h
              refine sm_W.cal (sm_C_mono D) (y := 15) (as := [.ref 21, .int (I 9 0), .int r3]) (fr' := (50, [some (.ref 0), some (.int x1), some (.int x2), some (.int r3), none], [], 1, 6)) rfl (T_Choir_easiestToWiden (by omega) (by decide) hc ?_)
              show sm_W sm_sh X (sm_C sm_sh X sm_P D) me_133 Q (50, [some (.ref 0), some (.int x1), some (.int x2), some (.int r3), none], [.int r4], 1, 6) (I, J, sm_rf 21 d)
              refine sm_W.run (sm_C_mono D) 3 (G := True) (fr' := (if decide (¬ x2 = 0) = true then 62 else 53, [some (.ref 0), some (.int x1), some (.int x2), some (.int r3), some (.int r4)], [], 1, 6)) (M' := (I, J, sm_rf 21 d)) rfl trivial (sm_W.iteD h (fun hc h => ?_) (fun hc h => ?_))
              · refine sm_W.run (sm_C_mono D) 1 (G := True) (fr' := (63, [some (.ref 0), some (.int x1), some (.int x2), some (.int r3), some (.int r4)], [.int r4], 1, 6)) (M' := (I, J, sm_rf 21 d)) rfl trivial ?_
                cases h
                exact sm_W.ret (sm_C_mono D) rfl (hQ1 _ rfl)
              · refine sm_W.run (sm_C_mono D) 3 (G := True) (fr' := (if decide (r4 = (-1 : Int32)) = true then 62 else 56, [some (.ref 0), some (.int x1), some (.int x2), some (.int r3), some (.int r4)], [], 1, 6)) (M' := (I, J, sm_rf 21 d)) rfl trivial (sm_W.iteD h (fun hc h => ?_) (fun hc h => ?_))
                · refine sm_W.run (sm_C_mono D) 1 (G := True) (fr' := (63, [some (.ref 0), some (.int x1), some (.int x2), some (.int r3), some (.int r4)], [.int r4], 1, 6)) (M' := (I, J, sm_rf 21 d)) rfl trivial ?_
                  cases h
                  exact sm_W.ret (sm_C_mono D) rfl (hQ1 _ rfl)
                · refine sm_W.run (sm_C_mono D) 4 (G := True) (fr' := (60, [some (.ref 0), some (.int x1), some (.int x2), some (.int r3), some (.int r4)], [.int r4, .int r3, .ref 21], 1, 6)) (M' := (I, J, sm_rf 21 d)) rfl trivial ?_
                  obtain ⟨r5, hc, h⟩ := sd_q1_go h
                  refine sm_W.cal (sm_C_mono D) (y := 91) (as := [.ref 21, .int r3, .int r4]) (fr' := (61, [some (.ref 0), some (.int x1), some (.int x2), some (.int r3), some (.int r4)], [], 1, 6)) rfl (T_Valley_stretch (by omega) (by decide) hc ?_)
                  show sm_W sm_sh X (sm_C sm_sh X sm_P D) me_133 Q (61, [some (.ref 0), some (.int x1), some (.int x2), some (.int r3), some (.int r4)], [.int r5], 1, 6) (I, J, sm_rf 21 d)
                  refine sm_W.run (sm_C_mono D) 1 (G := True) (fr' := (63, [some (.ref 0), some (.int x1), some (.int x2), some (.int r3), some (.int r4)], [.int r5], 1, 6)) (M' := (I, J, sm_rf 21 d)) rfl trivial ?_
                  cases h
                  exact sm_W.ret (sm_C_mono D) rfl (hQ1 _ rfl)
            · refine sm_W.run (sm_C_mono D) 1 (G := True) (fr' := (41, [some (.ref 0), some (.int x1), some (.int x2), some (.int r3), none], [.int (-1 : Int32)], 1, 6)) (M' := (I, J, sm_rf 21 d)) rfl trivial ?_
              cases h
              exact sm_W.ret (sm_C_mono D) rfl (hQ1 _ rfl)
          · refine sm_W.run (sm_C_mono D) 2 (G := True) (fr' := (if decide (¬ x2 = 0) = true then 26 else 24, [some (.ref 0), some (.int x1), some (.int x2), none, none], [], 1, 6)) (M' := (I, J, sm_rf 21 d)) rfl trivial (sm_W.iteD h (fun hc h => ?_) (fun hc h => ?_))
            · refine sm_W.run (sm_C_mono D) 1 (G := True) (fr' := (27, [some (.ref 0), some (.int x1), some (.int x2), none, none], [.int (-1 : Int32)], 1, 6)) (M' := (I, J, sm_rf 21 d)) rfl trivial ?_
              cases h
              exact sm_W.ret (sm_C_mono D) rfl (hQ1 _ rfl)
            · refine sm_W.run (sm_C_mono D) 2 (G := True) (fr' := (27, [some (.ref 0), some (.int x1), some (.int x2), none, none], [.int (0 : Int32)], 1, 6)) (M' := (I, J, sm_rf 21 d)) rfl trivial ?_
              cases h
              exact sm_W.ret (sm_C_mono D) rfl (hQ1 _ rfl)
        · cases h
          exact sm_W.thr (sm_C_mono D) rfl (hQ2 _ rfl)
    · refine sm_W.cal (sm_C_mono D) (y := 152) (as := [.ref 0, .int x1]) (fr' := (3, [some (.ref 0), some (.int x1), some (.int x2), none, none], [], 1, 6)) rfl (T_VM_checkPiece (by omega) (by decide) hc (fun _ e => by cases e) (fun _ e => ?_))
      cases e
      cases h
      exact ⟨rfl, hQ2 _ rfl⟩
  · skip
    refine sm_W.run (sm_C_mono D) 2 (G := True) (fr' := (2, [some (.ref 0), some (.int x1), some (.int x2), none, none], [.int x1, .ref 0], 0, 0)) (M' := (I, J, sm_rf 41 d)) rfl trivial ?_
    rcases sd_t1_go h with ⟨r1, hc, h⟩ | ⟨r1, hc, h⟩
    · refine sm_W.cal (sm_C_mono D) (y := 152) (as := [.ref 0, .int x1]) (fr' := (3, [some (.ref 0), some (.int x1), some (.int x2), none, none], [], 1, 6)) rfl (T_VM_checkPiece (by omega) (by decide) hc (fun _ e => ?_) (fun _ e => by cases e))
      cases e
      show sm_W sm_sh X (sm_C sm_sh X sm_P D) me_133 Q (3, [some (.ref 0), some (.int x1), some (.int x2), none, none], [], 1, 6) (I, J, sm_rf 41 d)
      refine sm_W.run (sm_C_mono D) 2 (G := True) (fr' := (if decide (x2 < 0) = true then 8 else 5, [some (.ref 0), some (.int x1), some (.int x2), none, none], [], 1, 6)) (M' := (I, J, sm_rf 41 d)) rfl trivial (sm_W.iteD h (fun hc h => ?_) (fun hc h => ?_))
      · cases h
        exact sm_W.thr (sm_C_mono D) rfl (hQ2 _ rfl)
      · refine sm_W.run (sm_C_mono D) 3 (G := True) (fr' := (if decide (x2 ≤ (1 : Int32)) = true then 13 else 8, [some (.ref 0), some (.int x1), some (.int x2), none, none], [], 1, 6)) (M' := (I, J, sm_rf 41 d)) rfl trivial (sm_W.iteD h (fun hc h => ?_) (fun hc h => ?_))
        · refine sm_W.run (sm_C_mono D) 7 (G := True) (fr' := (20, [some (.ref 0), some (.int x1), some (.int x2), none, none], [.int (I 9 0), .int x1, .ref 41], 1, 6)) (M' := (I, J, sm_rf 41 d)) rfl trivial ?_
          obtain ⟨r2, hc, h⟩ := sd_q1_go h
          refine sm_W.cal (sm_C_mono D) (y := 88) (as := [.ref 41, .int x1, .int (I 9 0)]) (fr' := (21, [some (.ref 0), some (.int x1), some (.int x2), none, none], [], 1, 6)) rfl (T_Valley_canBeSung (by omega) (by decide) hc ?_)
          show sm_W sm_sh X (sm_C sm_sh X sm_P D) me_133 Q (21, [some (.ref 0), some (.int x1), some (.int x2), none, none], [.int r2], 1, 6) (I, J, sm_rf 41 d)
          refine sm_W.run (sm_C_mono D) 1 (G := True) (fr' := (if decide (r2 = 0) = true then 28 else 22, [some (.ref 0), some (.int x1), some (.int x2), none, none], [], 1, 6)) (M' := (I, J, sm_rf 41 d)) rfl trivial (sm_W.iteD h (fun hc h => ?_) (fun hc h => ?_))
          · refine sm_W.run (sm_C_mono D) 7 (G := True) (fr' := (35, [some (.ref 0), some (.int x1), some (.int x2), none, none], [.int x1, .int (I 9 0), .ref 41], 1, 6)) (M' := (I, J, sm_rf 41 d)) rfl trivial ?_
            obtain ⟨r3, hc, h⟩ := sd_q1_go h
            refine sm_W.cal (sm_C_mono D) (y := 14) (as := [.ref 41, .int (I 9 0), .int x1]) (fr' := (36, [some (.ref 0), some (.int x1), some (.int x2), none, none], [], 1, 6)) rfl (T_Choir_rowLackingOne (by omega) (by decide) hc ?_)
            show sm_W sm_sh X (sm_C sm_sh X sm_P D) me_133 Q (36, [some (.ref 0), some (.int x1), some (.int x2), none, none], [.int r3], 1, 6) (I, J, sm_rf 41 d)
            refine sm_W.run (sm_C_mono D) 4 (G := True) (fr' := (if decide (¬ r3 = (-1 : Int32)) = true then 42 else 40, [some (.ref 0), some (.int x1), some (.int x2), some (.int r3), none], [], 1, 6)) (M' := (I, J, sm_rf 41 d)) rfl trivial (sm_W.iteD h (fun hc h => ?_) (fun hc h => ?_))
            · refine sm_W.run (sm_C_mono D) 7 (G := True) (fr' := (49, [some (.ref 0), some (.int x1), some (.int x2), some (.int r3), none], [.int r3, .int (I 9 0), .ref 41], 1, 6)) (M' := (I, J, sm_rf 41 d)) rfl trivial ?_
              obtain ⟨r4, hc, h⟩ := sd_q1_go h
              refine sm_W.cal (sm_C_mono D) (y := 15) (as := [.ref 41, .int (I 9 0), .int r3]) (fr' := (50, [some (.ref 0), some (.int x1), some (.int x2), some (.int r3), none], [], 1, 6)) rfl (T_Choir_easiestToWiden (by omega) (by decide) hc ?_)
              show sm_W sm_sh X (sm_C sm_sh X sm_P D) me_133 Q (50, [some (.ref 0), some (.int x1), some (.int x2), some (.int r3), none], [.int r4], 1, 6) (I, J, sm_rf 41 d)
              refine sm_W.run (sm_C_mono D) 3 (G := True) (fr' := (if decide (¬ x2 = 0) = true then 62 else 53, [some (.ref 0), some (.int x1), some (.int x2), some (.int r3), some (.int r4)], [], 1, 6)) (M' := (I, J, sm_rf 41 d)) rfl trivial (sm_W.iteD h (fun hc h => ?_) (fun hc h => ?_))
              · refine sm_W.run (sm_C_mono D) 1 (G := True) (fr' := (63, [some (.ref 0), some (.int x1), some (.int x2), some (.int r3), some (.int r4)], [.int r4], 1, 6)) (M' := (I, J, sm_rf 41 d)) rfl trivial ?_
                cases h
                exact sm_W.ret (sm_C_mono D) rfl (hQ1 _ rfl)
              · refine sm_W.run (sm_C_mono D) 3 (G := True) (fr' := (if decide (r4 = (-1 : Int32)) = true then 62 else 56, [some (.ref 0), some (.int x1), some (.int x2), some (.int r3), some (.int r4)], [], 1, 6)) (M' := (I, J, sm_rf 41 d)) rfl trivial (sm_W.iteD h (fun hc h => ?_) (fun hc h => ?_))
                · refine sm_W.run (sm_C_mono D) 1 (G := True) (fr' := (63, [some (.ref 0), some (.int x1), some (.int x2), some (.int r3), some (.int r4)], [.int r4], 1, 6)) (M' := (I, J, sm_rf 41 d)) rfl trivial ?_
                  cases h
                  exact sm_W.ret (sm_C_mono D) rfl (hQ1 _ rfl)
                · refine sm_W.run (sm_C_mono D) 4 (G := True) (fr' := (60, [some (.ref 0), some (.int x1), some (.int x2), some (.int r3), some (.int r4)], [.int r4, .int r3, .ref 41], 1, 6)) (M' := (I, J, sm_rf 41 d)) rfl trivial ?_
                  obtain ⟨r5, hc, h⟩ := sd_q1_go h
                  refine sm_W.cal (sm_C_mono D) (y := 91) (as := [.ref 41, .int r3, .int r4]) (fr' := (61, [some (.ref 0), some (.int x1), some (.int x2), some (.int r3), some (.int r4)], [], 1, 6)) rfl (T_Valley_stretch (by omega) (by decide) hc ?_)
                  show sm_W sm_sh X (sm_C sm_sh X sm_P D) me_133 Q (61, [some (.ref 0), some (.int x1), some (.int x2), some (.int r3), some (.int r4)], [.int r5], 1, 6) (I, J, sm_rf 41 d)
                  refine sm_W.run (sm_C_mono D) 1 (G := True) (fr' := (63, [some (.ref 0), some (.int x1), some (.int x2), some (.int r3), some (.int r4)], [.int r5], 1, 6)) (M' := (I, J, sm_rf 41 d)) rfl trivial ?_
                  cases h
                  exact sm_W.ret (sm_C_mono D) rfl (hQ1 _ rfl)
            · refine sm_W.run (sm_C_mono D) 1 (G := True) (fr' := (41, [some (.ref 0), some (.int x1), some (.int x2), some (.int r3), none], [.int (-1 : Int32)], 1, 6)) (M' := (I, J, sm_rf 41 d)) rfl trivial ?_
              cases h
              exact sm_W.ret (sm_C_mono D) rfl (hQ1 _ rfl)
          · refine sm_W.run (sm_C_mono D) 2 (G := True) (fr' := (if decide (¬ x2 = 0) = true then 26 else 24, [some (.ref 0), some (.int x1), some (.int x2), none, none], [], 1, 6)) (M' := (I, J, sm_rf 41 d)) rfl trivial (sm_W.iteD h (fun hc h => ?_) (fun hc h => ?_))
            · refine sm_W.run (sm_C_mono D) 1 (G := True) (fr' := (27, [some (.ref 0), some (.int x1), some (.int x2), none, none], [.int (-1 : Int32)], 1, 6)) (M' := (I, J, sm_rf 41 d)) rfl trivial ?_
              cases h
              exact sm_W.ret (sm_C_mono D) rfl (hQ1 _ rfl)
            · refine sm_W.run (sm_C_mono D) 2 (G := True) (fr' := (27, [some (.ref 0), some (.int x1), some (.int x2), none, none], [.int (0 : Int32)], 1, 6)) (M' := (I, J, sm_rf 41 d)) rfl trivial ?_
              cases h
              exact sm_W.ret (sm_C_mono D) rfl (hQ1 _ rfl)
        · cases h
          exact sm_W.thr (sm_C_mono D) rfl (hQ2 _ rfl)
    · refine sm_W.cal (sm_C_mono D) (y := 152) (as := [.ref 0, .int x1]) (fr' := (3, [some (.ref 0), some (.int x1), some (.int x2), none, none], [], 1, 6)) rfl (T_VM_checkPiece (by omega) (by decide) hc (fun _ e => by cases e) (fun _ e => ?_))
      cases e
      cases h
      exact ⟨rfl, hQ2 _ rfl⟩
theorem T_VM_widen {X : Nat × (Nat → Int32)} {t d D : Nat} {Q : sm_Q} {I : sm_MI} {J : sm_MJ} {x1 : Int32} {x2 : Int32} {rz : (Int32 ⊕ Nat)}
    (hD : 4 ≤ D) (ht : t = 21 ∨ t = 41) (h : F_VM_widen t x1 x2 I = some (rz)) (hQ1 : ∀ v, rz = .inl v → Q (.inl (some (.int v))) (I, J, sm_rf t d)) (hQ2 : ∀ E, rz = .inr E → Q (.inr E) (I, J, sm_rf t d)) : sm_C sm_sh X sm_P D 133 [.ref 0, .int x1, .int x2] (I, J, sm_rf t d) Q := by
  cases D with
  | zero => omega
  | succ D => exact sm_C.of (me := me_133) (L := [some (.ref 0), some (.int x1), some (.int x2), none, none]) rfl rfl rfl (sm_W.forget (L' := [some (.ref 0), some (.int x1), some (.int x2), none, none]) ⟨rfl, ⟨rfl, ⟨rfl, trivial⟩⟩⟩ (G_VM_widen (by omega) ht h hQ1 hQ2))
-- 134 VM_luck
noncomputable def F_VM_luck (t : Nat) (x1 : Int32) (x2 : Int32) (x3 : Int32) (I : sm_MI) : Option ((Int32 ⊕ Nat) × sm_MI) :=
  sd_t1 (F_VM_checkPiece t x1 I) (fun r1 =>
    if x3 < 0 then
      some (.inr 1, I)
    else
      if x3 ≤ (1 : Int32) then
        if x2 < 0 then
          some (.inr 0, I)
        else
          if x2 ≤ (14 : Int32) then
            sd_lt (I 9 0) fun a2 =>
            sd_q2 (F_Choir_setsOutlived t a2 x1 x2 I) fun r3 I4 =>
            if ¬ (lg_cmp r3 (0 : Int64)) = 0 then
              sd_q1 (F_Int_bitCount a2) fun r5 =>
              sd_q1 (F_Count_choose r5 x2) fun r6 =>
              sd_q1 (F_Count_commonDivisor r3 r6) fun r7 =>
              if ¬ (lg_cmp r7 (0 : Int64)) = 0 then
                if ¬ x3 = 0 then
                  sd_gu (¬ r7 = 0) <|
                  some (.inl (Int64.toInt32 (r6 / r7)), I4)
                else
                  sd_gu (¬ r7 = 0) <|
                  some (.inl (Int64.toInt32 (r3 / r7)), I4)
              else
                some (.inl x3, I4)
            else
              some (.inl x3, I4)
          else
            some (.inr 0, I)
      else
        some (.inr 1, I))
    (fun r1 => some (.inr r1, I))
theorem G_VM_luck {X : Nat × (Nat → Int32)} {t d D : Nat} {Q : sm_Q} {I : sm_MI} {J : sm_MJ} {x1 : Int32} {x2 : Int32} {x3 : Int32} {rz : (Int32 ⊕ Nat)} {Iz : sm_MI}
    (hD : 3 ≤ D) (ht : t = 21 ∨ t = 41) (h : F_VM_luck t x1 x2 x3 I = some (rz, Iz)) (hQ1 : ∀ v, rz = .inl v → Q (.inl (some (.int v))) (Iz, J, sm_rf t d)) (hQ2 : ∀ E, rz = .inr E → Q (.inr E) (Iz, J, sm_rf t d))  : sm_W sm_sh X (sm_C sm_sh X sm_P D) me_134 Q (0, [some (.ref 0), some (.int x1), some (.int x2), some (.int x3), none, none, none, none, none, none, none], [], 0, 0) (I, J, sm_rf t d) := by
  unfold F_VM_luck at h
  rcases ht with rfl | rfl
  · skip
    refine sm_W.run (sm_C_mono D) 2 (G := True) (fr' := (2, [some (.ref 0), some (.int x1), some (.int x2), some (.int x3), none, none, none, none, none, none, none], [.int x1, .ref 0], 0, 0)) (M' := (I, J, sm_rf 21 d)) rfl trivial ?_
    rcases sd_t1_go h with ⟨r1, hc, h⟩ | ⟨r1, hc, h⟩
    · refine sm_W.cal (sm_C_mono D) (y := 152) (as := [.ref 0, .int x1]) (fr' := (3, [some (.ref 0), some (.int x1), some (.int x2), some (.int x3), none, none, none, none, none, none, none], [], 1, 6)) rfl (T_VM_checkPiece (by omega) (by decide) hc (fun _ e => ?_) (fun _ e => by cases e))
      cases e
      show sm_W sm_sh X (sm_C sm_sh X sm_P D) me_134 Q (3, [some (.ref 0), some (.int x1), some (.int x2), some (.int x3), none, none, none, none, none, none, none], [], 1, 6) (I, J, sm_rf 21 d)
      refine sm_W.run (sm_C_mono D) 2 (G := True) (fr' := (if decide (x3 < 0) = true then 8 else 5, [some (.ref 0), some (.int x1), some (.int x2), some (.int x3), none, none, none, none, none, none, none], [], 1, 6)) (M' := (I, J, sm_rf 21 d)) rfl trivial (sm_W.iteD h (fun hc h => ?_) (fun hc h => ?_))
      · cases h
        exact sm_W.thr (sm_C_mono D) rfl (hQ2 _ rfl)
      · refine sm_W.run (sm_C_mono D) 3 (G := True) (fr' := (if decide (x3 ≤ (1 : Int32)) = true then 13 else 8, [some (.ref 0), some (.int x1), some (.int x2), some (.int x3), none, none, none, none, none, none, none], [], 1, 6)) (M' := (I, J, sm_rf 21 d)) rfl trivial (sm_W.iteD h (fun hc h => ?_) (fun hc h => ?_))
        · refine sm_W.run (sm_C_mono D) 2 (G := True) (fr' := (if decide (x2 < 0) = true then 18 else 15, [some (.ref 0), some (.int x1), some (.int x2), some (.int x3), none, none, none, none, none, none, none], [], 1, 6)) (M' := (I, J, sm_rf 21 d)) rfl trivial (sm_W.iteD h (fun hc h => ?_) (fun hc h => ?_))
          · cases h
            exact sm_W.thr (sm_C_mono D) rfl (hQ2 _ rfl)
          · refine sm_W.run (sm_C_mono D) 3 (G := True) (fr' := (if decide (x2 ≤ (14 : Int32)) = true then 23 else 18, [some (.ref 0), some (.int x1), some (.int x2), some (.int x3), none, none, none, none, none, none, none], [], 1, 6)) (M' := (I, J, sm_rf 21 d)) rfl trivial (sm_W.iteD h (fun hc h => ?_) (fun hc h => ?_))
            · refine sm_W.runL (sm_C_mono D) 5 (G := True) (e := (I 9 0)) (fr' := fun a2 => (28, [some (.ref 0), some (.int x1), some (.int x2), some (.int x3), some (.int a2), none, none, none, none, none, none], [], 1, 6)) (M' := fun _ => (I, J, sm_rf 21 d)) rfl h trivial (fun a2 h => ?_)
              refine sm_W.run (sm_C_mono D) 7 (G := True) (fr' := (35, [some (.ref 0), some (.int x1), some (.int x2), some (.int x3), some (.int a2), none, none, none, none, none, none], [.ref 2, .int x2, .int x1, .int a2, .ref 21], 1, 6)) (M' := (I, J, sm_rf 21 d)) rfl trivial ?_
              obtain ⟨r3, I4, hc, h⟩ := sd_q2_go h
              refine sm_W.cal (sm_C_mono D) (y := 16) (as := [.ref 21, .int a2, .int x1, .int x2, .ref 2]) (fr' := (36, [some (.ref 0), some (.int x1), some (.int x2), some (.int x3), some (.int a2), none, none, none, none, none, none], [], 1, 6)) rfl (T_Choir_setsOutlived (by omega) (by decide) hc ?_)
              show sm_W sm_sh X (sm_C sm_sh X sm_P D) me_134 Q (36, [some (.ref 0), some (.int x1), some (.int x2), some (.int x3), some (.int a2), none, none, none, none, none, none], [.long r3], 1, 6) (I4, J, sm_rf 21 d)
              refine sm_W.run (sm_C_mono D) 5 (G := True) (fr' := (if decide (¬ (lg_cmp r3 (0 : Int64)) = 0) = true then 43 else 41, [some (.ref 0), some (.int x1), some (.int x2), some (.int x3), some (.int a2), some (.long r3), none, none, none, none, none], [], 1, 6)) (M' := (I4, J, sm_rf 21 d)) rfl trivial (sm_W.iteD h (fun hc h => ?_) (fun hc h => ?_))
              · refine sm_W.run (sm_C_mono D) 1 (G := True) (fr' := (44, [some (.ref 0), some (.int x1), some (.int x2), some (.int x3), some (.int a2), some (.long r3), none, none, none, none, none], [.int a2], 1, 6)) (M' := (I4, J, sm_rf 21 d)) rfl trivial ?_
                obtain ⟨r5, hc, h⟩ := sd_q1_go h
                refine sm_W.cal (sm_C_mono D) (y := 268) (as := [.int a2]) (fr' := (45, [some (.ref 0), some (.int x1), some (.int x2), some (.int x3), some (.int a2), some (.long r3), none, none, none, none, none], [], 1, 6)) rfl (T_Int_bitCount (by omega) hc ?_)
                show sm_W sm_sh X (sm_C sm_sh X sm_P D) me_134 Q (45, [some (.ref 0), some (.int x1), some (.int x2), some (.int x3), some (.int a2), some (.long r3), none, none, none, none, none], [.int r5], 1, 6) (I4, J, sm_rf 21 d)
                refine sm_W.run (sm_C_mono D) 1 (G := True) (fr' := (46, [some (.ref 0), some (.int x1), some (.int x2), some (.int x3), some (.int a2), some (.long r3), none, none, none, none, none], [.int x2, .int r5], 1, 6)) (M' := (I4, J, sm_rf 21 d)) rfl trivial ?_
                obtain ⟨r6, hc, h⟩ := sd_q1_go h
                refine sm_W.cal (sm_C_mono D) (y := 23) (as := [.int r5, .int x2]) (fr' := (47, [some (.ref 0), some (.int x1), some (.int x2), some (.int x3), some (.int a2), some (.long r3), none, none, none, none, none], [], 1, 6)) rfl (T_Count_choose (by omega) hc ?_)
                show sm_W sm_sh X (sm_C sm_sh X sm_P D) me_134 Q (47, [some (.ref 0), some (.int x1), some (.int x2), some (.int x3), some (.int a2), some (.long r3), none, none, none, none, none], [.long r6], 1, 6) (I4, J, sm_rf 21 d)
                refine sm_W.run (sm_C_mono D) 3 (G := True) (fr' := (50, [some (.ref 0), some (.int x1), some (.int x2), some (.int x3), some (.int a2), some (.long r3), none, some (.long r6), none, none, none], [.long r6, .long r3], 1, 6)) (M' := (I4, J, sm_rf 21 d)) rfl trivial ?_
                obtain ⟨r7, hc, h⟩ := sd_q1_go h
                refine sm_W.cal (sm_C_mono D) (y := 25) (as := [.long r3, .long r6]) (fr' := (51, [some (.ref 0), some (.int x1), some (.int x2), some (.int x3), some (.int a2), some (.long r3), none, some (.long r6), none, none, none], [], 1, 6)) rfl (T_Count_commonDivisor (by omega) hc ?_)
                show sm_W sm_sh X (sm_C sm_sh X sm_P D) me_134 Q (51, [some (.ref 0), some (.int x1), some (.int x2), some (.int x3), some (.int a2), some (.long r3), none, some (.long r6), none, none, none], [.long r7], 1, 6) (I4, J, sm_rf 21 d)
                refine sm_W.run (sm_C_mono D) 5 (G := True) (fr' := (if decide (¬ (lg_cmp r7 (0 : Int64)) = 0) = true then 58 else 56, [some (.ref 0), some (.int x1), some (.int x2), some (.int x3), some (.int a2), some (.long r3), none, some (.long r6), none, some (.long r7), none], [], 1, 6)) (M' := (I4, J, sm_rf 21 d)) rfl trivial (sm_W.iteD h (fun hc h => ?_) (fun hc h => ?_))
                · refine sm_W.run (sm_C_mono D) 2 (G := True) (fr' := (if decide (¬ x3 = 0) = true then 62 else 60, [some (.ref 0), some (.int x1), some (.int x2), some (.int x3), some (.int a2), some (.long r3), none, some (.long r6), none, some (.long r7), none], [], 1, 6)) (M' := (I4, J, sm_rf 21 d)) rfl trivial (sm_W.iteD h (fun hc h => ?_) (fun hc h => ?_))
                  · obtain ⟨g8, h⟩ := sd_gu_go h
                    refine sm_W.run (sm_C_mono D) 4 (G := ¬ r7 = 0 ∧ True) (fr' := (66, [some (.ref 0), some (.int x1), some (.int x2), some (.int x3), some (.int a2), some (.long r3), none, some (.long r6), none, some (.long r7), none], [.int (Int64.toInt32 (r6 / r7))], 1, 6)) (M' := (I4, J, sm_rf 21 d)) rfl ⟨g8, trivial⟩ ?_
                    cases h
                    exact sm_W.ret (sm_C_mono D) rfl (hQ1 _ rfl)
                  · obtain ⟨g9, h⟩ := sd_gu_go h
                    refine sm_W.run (sm_C_mono D) 5 (G := ¬ r7 = 0 ∧ True) (fr' := (66, [some (.ref 0), some (.int x1), some (.int x2), some (.int x3), some (.int a2), some (.long r3), none, some (.long r6), none, some (.long r7), none], [.int (Int64.toInt32 (r3 / r7))], 1, 6)) (M' := (I4, J, sm_rf 21 d)) rfl ⟨g9, trivial⟩ ?_
                    cases h
                    exact sm_W.ret (sm_C_mono D) rfl (hQ1 _ rfl)
                · refine sm_W.run (sm_C_mono D) 1 (G := True) (fr' := (57, [some (.ref 0), some (.int x1), some (.int x2), some (.int x3), some (.int a2), some (.long r3), none, some (.long r6), none, some (.long r7), none], [.int x3], 1, 6)) (M' := (I4, J, sm_rf 21 d)) rfl trivial ?_
                  cases h
                  exact sm_W.ret (sm_C_mono D) rfl (hQ1 _ rfl)
              · refine sm_W.run (sm_C_mono D) 1 (G := True) (fr' := (42, [some (.ref 0), some (.int x1), some (.int x2), some (.int x3), some (.int a2), some (.long r3), none, none, none, none, none], [.int x3], 1, 6)) (M' := (I4, J, sm_rf 21 d)) rfl trivial ?_
                cases h
                exact sm_W.ret (sm_C_mono D) rfl (hQ1 _ rfl)
            · cases h
              exact sm_W.thr (sm_C_mono D) rfl (hQ2 _ rfl)
        · cases h
          exact sm_W.thr (sm_C_mono D) rfl (hQ2 _ rfl)
    · refine sm_W.cal (sm_C_mono D) (y := 152) (as := [.ref 0, .int x1]) (fr' := (3, [some (.ref 0), some (.int x1), some (.int x2), some (.int x3), none, none, none, none, none, none, none], [], 1, 6)) rfl (T_VM_checkPiece (by omega) (by decide) hc (fun _ e => by cases e) (fun _ e => ?_))
      cases e
      cases h
      exact ⟨rfl, hQ2 _ rfl⟩
  · skip
    refine sm_W.run (sm_C_mono D) 2 (G := True) (fr' := (2, [some (.ref 0), some (.int x1), some (.int x2), some (.int x3), none, none, none, none, none, none, none], [.int x1, .ref 0], 0, 0)) (M' := (I, J, sm_rf 41 d)) rfl trivial ?_
    rcases sd_t1_go h with ⟨r1, hc, h⟩ | ⟨r1, hc, h⟩
    · refine sm_W.cal (sm_C_mono D) (y := 152) (as := [.ref 0, .int x1]) (fr' := (3, [some (.ref 0), some (.int x1), some (.int x2), some (.int x3), none, none, none, none, none, none, none], [], 1, 6)) rfl (T_VM_checkPiece (by omega) (by decide) hc (fun _ e => ?_) (fun _ e => by cases e))
      cases e
      show sm_W sm_sh X (sm_C sm_sh X sm_P D) me_134 Q (3, [some (.ref 0), some (.int x1), some (.int x2), some (.int x3), none, none, none, none, none, none, none], [], 1, 6) (I, J, sm_rf 41 d)
      refine sm_W.run (sm_C_mono D) 2 (G := True) (fr' := (if decide (x3 < 0) = true then 8 else 5, [some (.ref 0), some (.int x1), some (.int x2), some (.int x3), none, none, none, none, none, none, none], [], 1, 6)) (M' := (I, J, sm_rf 41 d)) rfl trivial (sm_W.iteD h (fun hc h => ?_) (fun hc h => ?_))
      · cases h
        exact sm_W.thr (sm_C_mono D) rfl (hQ2 _ rfl)
      · refine sm_W.run (sm_C_mono D) 3 (G := True) (fr' := (if decide (x3 ≤ (1 : Int32)) = true then 13 else 8, [some (.ref 0), some (.int x1), some (.int x2), some (.int x3), none, none, none, none, none, none, none], [], 1, 6)) (M' := (I, J, sm_rf 41 d)) rfl trivial (sm_W.iteD h (fun hc h => ?_) (fun hc h => ?_))
        · refine sm_W.run (sm_C_mono D) 2 (G := True) (fr' := (if decide (x2 < 0) = true then 18 else 15, [some (.ref 0), some (.int x1), some (.int x2), some (.int x3), none, none, none, none, none, none, none], [], 1, 6)) (M' := (I, J, sm_rf 41 d)) rfl trivial (sm_W.iteD h (fun hc h => ?_) (fun hc h => ?_))
          · cases h
            exact sm_W.thr (sm_C_mono D) rfl (hQ2 _ rfl)
          · refine sm_W.run (sm_C_mono D) 3 (G := True) (fr' := (if decide (x2 ≤ (14 : Int32)) = true then 23 else 18, [some (.ref 0), some (.int x1), some (.int x2), some (.int x3), none, none, none, none, none, none, none], [], 1, 6)) (M' := (I, J, sm_rf 41 d)) rfl trivial (sm_W.iteD h (fun hc h => ?_) (fun hc h => ?_))
            · refine sm_W.runL (sm_C_mono D) 5 (G := True) (e := (I 9 0)) (fr' := fun a2 => (28, [some (.ref 0), some (.int x1), some (.int x2), some (.int x3), some (.int a2), none, none, none, none, none, none], [], 1, 6)) (M' := fun _ => (I, J, sm_rf 41 d)) rfl h trivial (fun a2 h => ?_)
              refine sm_W.run (sm_C_mono D) 7 (G := True) (fr' := (35, [some (.ref 0), some (.int x1), some (.int x2), some (.int x3), some (.int a2), none, none, none, none, none, none], [.ref 2, .int x2, .int x1, .int a2, .ref 41], 1, 6)) (M' := (I, J, sm_rf 41 d)) rfl trivial ?_
              obtain ⟨r3, I4, hc, h⟩ := sd_q2_go h
              refine sm_W.cal (sm_C_mono D) (y := 16) (as := [.ref 41, .int a2, .int x1, .int x2, .ref 2]) (fr' := (36, [some (.ref 0), some (.int x1), some (.int x2), some (.int x3), some (.int a2), none, none, none, none, none, none], [], 1, 6)) rfl (T_Choir_setsOutlived (by omega) (by decide) hc ?_)
              show sm_W sm_sh X (sm_C sm_sh X sm_P D) me_134 Q (36, [some (.ref 0), some (.int x1), some (.int x2), some (.int x3), some (.int a2), none, none, none, none, none, none], [.long r3], 1, 6) (I4, J, sm_rf 41 d)
              refine sm_W.run (sm_C_mono D) 5 (G := True) (fr' := (if decide (¬ (lg_cmp r3 (0 : Int64)) = 0) = true then 43 else 41, [some (.ref 0), some (.int x1), some (.int x2), some (.int x3), some (.int a2), some (.long r3), none, none, none, none, none], [], 1, 6)) (M' := (I4, J, sm_rf 41 d)) rfl trivial (sm_W.iteD h (fun hc h => ?_) (fun hc h => ?_))
              · refine sm_W.run (sm_C_mono D) 1 (G := True) (fr' := (44, [some (.ref 0), some (.int x1), some (.int x2), some (.int x3), some (.int a2), some (.long r3), none, none, none, none, none], [.int a2], 1, 6)) (M' := (I4, J, sm_rf 41 d)) rfl trivial ?_
                obtain ⟨r5, hc, h⟩ := sd_q1_go h
                refine sm_W.cal (sm_C_mono D) (y := 268) (as := [.int a2]) (fr' := (45, [some (.ref 0), some (.int x1), some (.int x2), some (.int x3), some (.int a2), some (.long r3), none, none, none, none, none], [], 1, 6)) rfl (T_Int_bitCount (by omega) hc ?_)
                show sm_W sm_sh X (sm_C sm_sh X sm_P D) me_134 Q (45, [some (.ref 0), some (.int x1), some (.int x2), some (.int x3), some (.int a2), some (.long r3), none, none, none, none, none], [.int r5], 1, 6) (I4, J, sm_rf 41 d)
                refine sm_W.run (sm_C_mono D) 1 (G := True) (fr' := (46, [some (.ref 0), some (.int x1), some (.int x2), some (.int x3), some (.int a2), some (.long r3), none, none, none, none, none], [.int x2, .int r5], 1, 6)) (M' := (I4, J, sm_rf 41 d)) rfl trivial ?_
                obtain ⟨r6, hc, h⟩ := sd_q1_go h
                refine sm_W.cal (sm_C_mono D) (y := 23) (as := [.int r5, .int x2]) (fr' := (47, [some (.ref 0), some (.int x1), some (.int x2), some (.int x3), some (.int a2), some (.long r3), none, none, none, none, none], [], 1, 6)) rfl (T_Count_choose (by omega) hc ?_)
                show sm_W sm_sh X (sm_C sm_sh X sm_P D) me_134 Q (47, [some (.ref 0), some (.int x1), some (.int x2), some (.int x3), some (.int a2), some (.long r3), none, none, none, none, none], [.long r6], 1, 6) (I4, J, sm_rf 41 d)
                refine sm_W.run (sm_C_mono D) 3 (G := True) (fr' := (50, [some (.ref 0), some (.int x1), some (.int x2), some (.int x3), some (.int a2), some (.long r3), none, some (.long r6), none, none, none], [.long r6, .long r3], 1, 6)) (M' := (I4, J, sm_rf 41 d)) rfl trivial ?_
                obtain ⟨r7, hc, h⟩ := sd_q1_go h
                refine sm_W.cal (sm_C_mono D) (y := 25) (as := [.long r3, .long r6]) (fr' := (51, [some (.ref 0), some (.int x1), some (.int x2), some (.int x3), some (.int a2), some (.long r3), none, some (.long r6), none, none, none], [], 1, 6)) rfl (T_Count_commonDivisor (by omega) hc ?_)
                show sm_W sm_sh X (sm_C sm_sh X sm_P D) me_134 Q (51, [some (.ref 0), some (.int x1), some (.int x2), some (.int x3), some (.int a2), some (.long r3), none, some (.long r6), none, none, none], [.long r7], 1, 6) (I4, J, sm_rf 41 d)
                refine sm_W.run (sm_C_mono D) 5 (G := True) (fr' := (if decide (¬ (lg_cmp r7 (0 : Int64)) = 0) = true then 58 else 56, [some (.ref 0), some (.int x1), some (.int x2), some (.int x3), some (.int a2), some (.long r3), none, some (.long r6), none, some (.long r7), none], [], 1, 6)) (M' := (I4, J, sm_rf 41 d)) rfl trivial (sm_W.iteD h (fun hc h => ?_) (fun hc h => ?_))
                · refine sm_W.run (sm_C_mono D) 2 (G := True) (fr' := (if decide (¬ x3 = 0) = true then 62 else 60, [some (.ref 0), some (.int x1), some (.int x2), some (.int x3), some (.int a2), some (.long r3), none, some (.long r6), none, some (.long r7), none], [], 1, 6)) (M' := (I4, J, sm_rf 41 d)) rfl trivial (sm_W.iteD h (fun hc h => ?_) (fun hc h => ?_))
                  · obtain ⟨g8, h⟩ := sd_gu_go h
                    refine sm_W.run (sm_C_mono D) 4 (G := ¬ r7 = 0 ∧ True) (fr' := (66, [some (.ref 0), some (.int x1), some (.int x2), some (.int x3), some (.int a2), some (.long r3), none, some (.long r6), none, some (.long r7), none], [.int (Int64.toInt32 (r6 / r7))], 1, 6)) (M' := (I4, J, sm_rf 41 d)) rfl ⟨g8, trivial⟩ ?_
                    cases h
                    exact sm_W.ret (sm_C_mono D) rfl (hQ1 _ rfl)
                  · obtain ⟨g9, h⟩ := sd_gu_go h
                    refine sm_W.run (sm_C_mono D) 5 (G := ¬ r7 = 0 ∧ True) (fr' := (66, [some (.ref 0), some (.int x1), some (.int x2), some (.int x3), some (.int a2), some (.long r3), none, some (.long r6), none, some (.long r7), none], [.int (Int64.toInt32 (r3 / r7))], 1, 6)) (M' := (I4, J, sm_rf 41 d)) rfl ⟨g9, trivial⟩ ?_
                    cases h
                    exact sm_W.ret (sm_C_mono D) rfl (hQ1 _ rfl)
                · refine sm_W.run (sm_C_mono D) 1 (G := True) (fr' := (57, [some (.ref 0), some (.int x1), some (.int x2), some (.int x3), some (.int a2), some (.long r3), none, some (.long r6), none, some (.long r7), none], [.int x3], 1, 6)) (M' := (I4, J, sm_rf 41 d)) rfl trivial ?_
                  cases h
                  exact sm_W.ret (sm_C_mono D) rfl (hQ1 _ rfl)
              · refine sm_W.run (sm_C_mono D) 1 (G := True) (fr' := (42, [some (.ref 0), some (.int x1), some (.int x2), some (.int x3), some (.int a2), some (.long r3), none, none, none, none, none], [.int x3], 1, 6)) (M' := (I4, J, sm_rf 41 d)) rfl trivial ?_
                cases h
                exact sm_W.ret (sm_C_mono D) rfl (hQ1 _ rfl)
            · cases h
              exact sm_W.thr (sm_C_mono D) rfl (hQ2 _ rfl)
        · cases h
          exact sm_W.thr (sm_C_mono D) rfl (hQ2 _ rfl)
    · refine sm_W.cal (sm_C_mono D) (y := 152) (as := [.ref 0, .int x1]) (fr' := (3, [some (.ref 0), some (.int x1), some (.int x2), some (.int x3), none, none, none, none, none, none, none], [], 1, 6)) rfl (T_VM_checkPiece (by omega) (by decide) hc (fun _ e => by cases e) (fun _ e => ?_))
      cases e
      cases h
      exact ⟨rfl, hQ2 _ rfl⟩
theorem T_VM_luck {X : Nat × (Nat → Int32)} {t d D : Nat} {Q : sm_Q} {I : sm_MI} {J : sm_MJ} {x1 : Int32} {x2 : Int32} {x3 : Int32} {rz : (Int32 ⊕ Nat)} {Iz : sm_MI}
    (hD : 4 ≤ D) (ht : t = 21 ∨ t = 41) (h : F_VM_luck t x1 x2 x3 I = some (rz, Iz)) (hQ1 : ∀ v, rz = .inl v → Q (.inl (some (.int v))) (Iz, J, sm_rf t d)) (hQ2 : ∀ E, rz = .inr E → Q (.inr E) (Iz, J, sm_rf t d)) : sm_C sm_sh X sm_P D 134 [.ref 0, .int x1, .int x2, .int x3] (I, J, sm_rf t d) Q := by
  cases D with
  | zero => omega
  | succ D => exact sm_C.of (me := me_134) (L := [some (.ref 0), some (.int x1), some (.int x2), some (.int x3), none, none, none, none, none, none, none]) rfl rfl rfl (sm_W.forget (L' := [some (.ref 0), some (.int x1), some (.int x2), some (.int x3), none, none, none, none, none, none, none]) ⟨rfl, ⟨rfl, ⟨rfl, ⟨rfl, trivial⟩⟩⟩⟩ (G_VM_luck (by omega) ht h hQ1 hQ2))
-- 135 VM_codes
noncomputable def F_VM_codes (t : Nat) (x1 : Int32) (x2 : Int32) (I : sm_MI) : Option ((Int64 ⊕ Nat)) :=
  sd_t1 (F_VM_checkPiece t x1 I) (fun r1 =>
    if x2 < 0 then
      some (.inr 0)
    else
      if x2 ≤ (12 : Int32) then
        sd_q1 (F_Valley_notesIn t x1 I) fun r2 =>
        sd_q1 (F_Count_slipWays r2 x2) fun r3 =>
        some (.inl r3)
      else
        some (.inr 0))
    (fun r1 => some (.inr r1))
theorem G_VM_codes {X : Nat × (Nat → Int32)} {t d D : Nat} {Q : sm_Q} {I : sm_MI} {J : sm_MJ} {x1 : Int32} {x2 : Int32} {rz : (Int64 ⊕ Nat)}
    (hD : 2 ≤ D) (ht : t = 21 ∨ t = 41) (h : F_VM_codes t x1 x2 I = some (rz)) (hQ1 : ∀ v, rz = .inl v → Q (.inl (some (.long v))) (I, J, sm_rf t d)) (hQ2 : ∀ E, rz = .inr E → Q (.inr E) (I, J, sm_rf t d))  : sm_W sm_sh X (sm_C sm_sh X sm_P D) me_135 Q (0, [some (.ref 0), some (.int x1), some (.int x2)], [], 0, 0) (I, J, sm_rf t d) := by
  unfold F_VM_codes at h
  rcases ht with rfl | rfl
  · skip
    refine sm_W.run (sm_C_mono D) 2 (G := True) (fr' := (2, [some (.ref 0), some (.int x1), some (.int x2)], [.int x1, .ref 0], 0, 0)) (M' := (I, J, sm_rf 21 d)) rfl trivial ?_
    rcases sd_t1_go h with ⟨r1, hc, h⟩ | ⟨r1, hc, h⟩
    · refine sm_W.cal (sm_C_mono D) (y := 152) (as := [.ref 0, .int x1]) (fr' := (3, [some (.ref 0), some (.int x1), some (.int x2)], [], 1, 6)) rfl (T_VM_checkPiece (by omega) (by decide) hc (fun _ e => ?_) (fun _ e => by cases e))
      cases e
      show sm_W sm_sh X (sm_C sm_sh X sm_P D) me_135 Q (3, [some (.ref 0), some (.int x1), some (.int x2)], [], 1, 6) (I, J, sm_rf 21 d)
      refine sm_W.run (sm_C_mono D) 2 (G := True) (fr' := (if decide (x2 < 0) = true then 8 else 5, [some (.ref 0), some (.int x1), some (.int x2)], [], 1, 6)) (M' := (I, J, sm_rf 21 d)) rfl trivial (sm_W.iteD h (fun hc h => ?_) (fun hc h => ?_))
      · cases h
        exact sm_W.thr (sm_C_mono D) rfl (hQ2 _ rfl)
      · refine sm_W.run (sm_C_mono D) 3 (G := True) (fr' := (if decide (x2 ≤ (12 : Int32)) = true then 13 else 8, [some (.ref 0), some (.int x1), some (.int x2)], [], 1, 6)) (M' := (I, J, sm_rf 21 d)) rfl trivial (sm_W.iteD h (fun hc h => ?_) (fun hc h => ?_))
        · refine sm_W.run (sm_C_mono D) 3 (G := True) (fr' := (16, [some (.ref 0), some (.int x1), some (.int x2)], [.int x1, .ref 21], 1, 6)) (M' := (I, J, sm_rf 21 d)) rfl trivial ?_
          obtain ⟨r2, hc, h⟩ := sd_q1_go h
          refine sm_W.cal (sm_C_mono D) (y := 87) (as := [.ref 21, .int x1]) (fr' := (17, [some (.ref 0), some (.int x1), some (.int x2)], [], 1, 6)) rfl (T_Valley_notesIn (by omega) (by decide) hc ?_)
          show sm_W sm_sh X (sm_C sm_sh X sm_P D) me_135 Q (17, [some (.ref 0), some (.int x1), some (.int x2)], [.int r2], 1, 6) (I, J, sm_rf 21 d)
          refine sm_W.run (sm_C_mono D) 1 (G := True) (fr' := (18, [some (.ref 0), some (.int x1), some (.int x2)], [.int x2, .int r2], 1, 6)) (M' := (I, J, sm_rf 21 d)) rfl trivial ?_
          obtain ⟨r3, hc, h⟩ := sd_q1_go h
          refine sm_W.cal (sm_C_mono D) (y := 24) (as := [.int r2, .int x2]) (fr' := (19, [some (.ref 0), some (.int x1), some (.int x2)], [], 1, 6)) rfl (T_Count_slipWays (by omega) hc ?_)
          show sm_W sm_sh X (sm_C sm_sh X sm_P D) me_135 Q (19, [some (.ref 0), some (.int x1), some (.int x2)], [.long r3], 1, 6) (I, J, sm_rf 21 d)
          cases h
          exact sm_W.ret (sm_C_mono D) rfl (hQ1 _ rfl)
        · cases h
          exact sm_W.thr (sm_C_mono D) rfl (hQ2 _ rfl)
    · refine sm_W.cal (sm_C_mono D) (y := 152) (as := [.ref 0, .int x1]) (fr' := (3, [some (.ref 0), some (.int x1), some (.int x2)], [], 1, 6)) rfl (T_VM_checkPiece (by omega) (by decide) hc (fun _ e => by cases e) (fun _ e => ?_))
      cases e
      cases h
      exact ⟨rfl, hQ2 _ rfl⟩
  · skip
    refine sm_W.run (sm_C_mono D) 2 (G := True) (fr' := (2, [some (.ref 0), some (.int x1), some (.int x2)], [.int x1, .ref 0], 0, 0)) (M' := (I, J, sm_rf 41 d)) rfl trivial ?_
    rcases sd_t1_go h with ⟨r1, hc, h⟩ | ⟨r1, hc, h⟩
    · refine sm_W.cal (sm_C_mono D) (y := 152) (as := [.ref 0, .int x1]) (fr' := (3, [some (.ref 0), some (.int x1), some (.int x2)], [], 1, 6)) rfl (T_VM_checkPiece (by omega) (by decide) hc (fun _ e => ?_) (fun _ e => by cases e))
      cases e
      show sm_W sm_sh X (sm_C sm_sh X sm_P D) me_135 Q (3, [some (.ref 0), some (.int x1), some (.int x2)], [], 1, 6) (I, J, sm_rf 41 d)
      refine sm_W.run (sm_C_mono D) 2 (G := True) (fr' := (if decide (x2 < 0) = true then 8 else 5, [some (.ref 0), some (.int x1), some (.int x2)], [], 1, 6)) (M' := (I, J, sm_rf 41 d)) rfl trivial (sm_W.iteD h (fun hc h => ?_) (fun hc h => ?_))
      · cases h
        exact sm_W.thr (sm_C_mono D) rfl (hQ2 _ rfl)
      · refine sm_W.run (sm_C_mono D) 3 (G := True) (fr' := (if decide (x2 ≤ (12 : Int32)) = true then 13 else 8, [some (.ref 0), some (.int x1), some (.int x2)], [], 1, 6)) (M' := (I, J, sm_rf 41 d)) rfl trivial (sm_W.iteD h (fun hc h => ?_) (fun hc h => ?_))
        · refine sm_W.run (sm_C_mono D) 3 (G := True) (fr' := (16, [some (.ref 0), some (.int x1), some (.int x2)], [.int x1, .ref 41], 1, 6)) (M' := (I, J, sm_rf 41 d)) rfl trivial ?_
          obtain ⟨r2, hc, h⟩ := sd_q1_go h
          refine sm_W.cal (sm_C_mono D) (y := 87) (as := [.ref 41, .int x1]) (fr' := (17, [some (.ref 0), some (.int x1), some (.int x2)], [], 1, 6)) rfl (T_Valley_notesIn (by omega) (by decide) hc ?_)
          show sm_W sm_sh X (sm_C sm_sh X sm_P D) me_135 Q (17, [some (.ref 0), some (.int x1), some (.int x2)], [.int r2], 1, 6) (I, J, sm_rf 41 d)
          refine sm_W.run (sm_C_mono D) 1 (G := True) (fr' := (18, [some (.ref 0), some (.int x1), some (.int x2)], [.int x2, .int r2], 1, 6)) (M' := (I, J, sm_rf 41 d)) rfl trivial ?_
          obtain ⟨r3, hc, h⟩ := sd_q1_go h
          refine sm_W.cal (sm_C_mono D) (y := 24) (as := [.int r2, .int x2]) (fr' := (19, [some (.ref 0), some (.int x1), some (.int x2)], [], 1, 6)) rfl (T_Count_slipWays (by omega) hc ?_)
          show sm_W sm_sh X (sm_C sm_sh X sm_P D) me_135 Q (19, [some (.ref 0), some (.int x1), some (.int x2)], [.long r3], 1, 6) (I, J, sm_rf 41 d)
          cases h
          exact sm_W.ret (sm_C_mono D) rfl (hQ1 _ rfl)
        · cases h
          exact sm_W.thr (sm_C_mono D) rfl (hQ2 _ rfl)
    · refine sm_W.cal (sm_C_mono D) (y := 152) (as := [.ref 0, .int x1]) (fr' := (3, [some (.ref 0), some (.int x1), some (.int x2)], [], 1, 6)) rfl (T_VM_checkPiece (by omega) (by decide) hc (fun _ e => by cases e) (fun _ e => ?_))
      cases e
      cases h
      exact ⟨rfl, hQ2 _ rfl⟩
theorem T_VM_codes {X : Nat × (Nat → Int32)} {t d D : Nat} {Q : sm_Q} {I : sm_MI} {J : sm_MJ} {x1 : Int32} {x2 : Int32} {rz : (Int64 ⊕ Nat)}
    (hD : 3 ≤ D) (ht : t = 21 ∨ t = 41) (h : F_VM_codes t x1 x2 I = some (rz)) (hQ1 : ∀ v, rz = .inl v → Q (.inl (some (.long v))) (I, J, sm_rf t d)) (hQ2 : ∀ E, rz = .inr E → Q (.inr E) (I, J, sm_rf t d)) : sm_C sm_sh X sm_P D 135 [.ref 0, .int x1, .int x2] (I, J, sm_rf t d) Q := by
  cases D with
  | zero => omega
  | succ D => exact sm_C.of (me := me_135) (L := [some (.ref 0), some (.int x1), some (.int x2)]) rfl rfl rfl (sm_W.forget (L' := [some (.ref 0), some (.int x1), some (.int x2)]) ⟨rfl, ⟨rfl, ⟨rfl, trivial⟩⟩⟩ (G_VM_codes (by omega) ht h hQ1 hQ2))
-- 136 VM_slips
noncomputable def F_VM_slips_20B (t : Nat) (k20 : Int32 → Int32 → Int32 → Option ((Int32 ⊕ Nat))) (x2 : Int32) (x3 : Int32) (x4 : Int32) (I : sm_MI) : Option ((Int32 ⊕ Nat)) :=
  if (12 : Int32) < x4 then
    some (.inl (-1 : Int32))
  else
    sd_q1 (F_Count_slipWays x3 x4) fun r1 =>
    if (lg_cmp r1 (Int32.toInt64 x2)) < 0 then
      k20 x2 x3 (x4 + (1 : Int32))
    else
      some (.inl x4)
noncomputable def F_VM_slips_20 (t : Nat) (I : sm_MI) (n : Nat) : Int32 → Int32 → Int32 → Option ((Int32 ⊕ Nat)) :=
  sd_fix (fun k x2 x3 x4 => F_VM_slips_20B t k x2 x3 x4 I) (fun _ _ _ => none) n
noncomputable def F_VM_slips (t : Nat) (x1 : Int32) (x2 : Int32) (I : sm_MI) : Option ((Int32 ⊕ Nat)) :=
  sd_t1 (F_VM_checkPiece t x1 I) (fun r1 =>
    if x2 < 0 then
      some (.inr 0)
    else
      if x2 ≤ (1000000000 : Int32) then
        sd_q1 (F_Valley_notesIn t x1 I) fun r2 =>
        F_VM_slips_20 t I sd_fu x2 r2 (0 : Int32)
      else
        some (.inr 0))
    (fun r1 => some (.inr r1))
theorem G_VM_slips_20B {X : Nat × (Nat → Int32)} {t d D : Nat} {Q : sm_Q} {I : sm_MI} {J : sm_MJ} {k20 : Int32 → Int32 → Int32 → Option ((Int32 ⊕ Nat))} {x2 : Int32} {x3 : Int32} {x4 : Int32} {rz : (Int32 ⊕ Nat)}
    (hD : 2 ≤ D) (ht : t = 21 ∨ t = 41) (h : F_VM_slips_20B t k20 x2 x3 x4 I = some (rz)) (hQ1 : ∀ v, rz = .inl v → Q (.inl (some (.int v))) (I, J, sm_rf t d)) (hQ2 : ∀ E, rz = .inr E → Q (.inr E) (I, J, sm_rf t d)) (hk20 : ∀ (x2 : Int32) (x3 : Int32) (x4 : Int32), k20 x2 x3 x4 = some (rz) → sm_W sm_sh X (sm_C sm_sh X sm_P D) me_136 Q (20, [none, none, some (.int x2), some (.int x3), some (.int x4)], [], 1, 6) (I, J, sm_rf t d)) : sm_W sm_sh X (sm_C sm_sh X sm_P D) me_136 Q (20, [none, none, some (.int x2), some (.int x3), some (.int x4)], [], 1, 6) (I, J, sm_rf t d) := by
  unfold F_VM_slips_20B at h
  rcases ht with rfl | rfl
  · skip
    refine sm_W.run (sm_C_mono D) 3 (G := True) (fr' := (if decide ((12 : Int32) < x4) = true then 34 else 23, [none, none, some (.int x2), some (.int x3), some (.int x4)], [], 1, 6)) (M' := (I, J, sm_rf 21 d)) rfl trivial (sm_W.iteD h (fun hc h => ?_) (fun hc h => ?_))
    · refine sm_W.run (sm_C_mono D) 1 (G := True) (fr' := (35, [none, none, some (.int x2), some (.int x3), some (.int x4)], [.int (-1 : Int32)], 1, 6)) (M' := (I, J, sm_rf 21 d)) rfl trivial ?_
      cases h
      exact sm_W.ret (sm_C_mono D) rfl (hQ1 _ rfl)
    · refine sm_W.run (sm_C_mono D) 2 (G := True) (fr' := (25, [none, none, some (.int x2), some (.int x3), some (.int x4)], [.int x4, .int x3], 1, 6)) (M' := (I, J, sm_rf 21 d)) rfl trivial ?_
      obtain ⟨r1, hc, h⟩ := sd_q1_go h
      refine sm_W.cal (sm_C_mono D) (y := 24) (as := [.int x3, .int x4]) (fr' := (26, [none, none, some (.int x2), some (.int x3), some (.int x4)], [], 1, 6)) rfl (T_Count_slipWays (by omega) hc ?_)
      show sm_W sm_sh X (sm_C sm_sh X sm_P D) me_136 Q (26, [none, none, some (.int x2), some (.int x3), some (.int x4)], [.long r1], 1, 6) (I, J, sm_rf 21 d)
      refine sm_W.run (sm_C_mono D) 4 (G := True) (fr' := (if decide ((lg_cmp r1 (Int32.toInt64 x2)) < 0) = true then 32 else 30, [none, none, some (.int x2), some (.int x3), some (.int x4)], [], 1, 6)) (M' := (I, J, sm_rf 21 d)) rfl trivial (sm_W.iteD h (fun hc h => ?_) (fun hc h => ?_))
      · refine sm_W.run (sm_C_mono D) 2 (G := True) (fr' := (20, [none, none, some (.int x2), some (.int x3), some (.int (x4 + (1 : Int32)))], [], 1, 6)) (M' := (I, J, sm_rf 21 d)) rfl trivial ?_
        exact (hk20 _ _ _ h)
      · refine sm_W.run (sm_C_mono D) 1 (G := True) (fr' := (31, [none, none, some (.int x2), some (.int x3), some (.int x4)], [.int x4], 1, 6)) (M' := (I, J, sm_rf 21 d)) rfl trivial ?_
        cases h
        exact sm_W.ret (sm_C_mono D) rfl (hQ1 _ rfl)
  · skip
    refine sm_W.run (sm_C_mono D) 3 (G := True) (fr' := (if decide ((12 : Int32) < x4) = true then 34 else 23, [none, none, some (.int x2), some (.int x3), some (.int x4)], [], 1, 6)) (M' := (I, J, sm_rf 41 d)) rfl trivial (sm_W.iteD h (fun hc h => ?_) (fun hc h => ?_))
    · refine sm_W.run (sm_C_mono D) 1 (G := True) (fr' := (35, [none, none, some (.int x2), some (.int x3), some (.int x4)], [.int (-1 : Int32)], 1, 6)) (M' := (I, J, sm_rf 41 d)) rfl trivial ?_
      cases h
      exact sm_W.ret (sm_C_mono D) rfl (hQ1 _ rfl)
    · refine sm_W.run (sm_C_mono D) 2 (G := True) (fr' := (25, [none, none, some (.int x2), some (.int x3), some (.int x4)], [.int x4, .int x3], 1, 6)) (M' := (I, J, sm_rf 41 d)) rfl trivial ?_
      obtain ⟨r1, hc, h⟩ := sd_q1_go h
      refine sm_W.cal (sm_C_mono D) (y := 24) (as := [.int x3, .int x4]) (fr' := (26, [none, none, some (.int x2), some (.int x3), some (.int x4)], [], 1, 6)) rfl (T_Count_slipWays (by omega) hc ?_)
      show sm_W sm_sh X (sm_C sm_sh X sm_P D) me_136 Q (26, [none, none, some (.int x2), some (.int x3), some (.int x4)], [.long r1], 1, 6) (I, J, sm_rf 41 d)
      refine sm_W.run (sm_C_mono D) 4 (G := True) (fr' := (if decide ((lg_cmp r1 (Int32.toInt64 x2)) < 0) = true then 32 else 30, [none, none, some (.int x2), some (.int x3), some (.int x4)], [], 1, 6)) (M' := (I, J, sm_rf 41 d)) rfl trivial (sm_W.iteD h (fun hc h => ?_) (fun hc h => ?_))
      · refine sm_W.run (sm_C_mono D) 2 (G := True) (fr' := (20, [none, none, some (.int x2), some (.int x3), some (.int (x4 + (1 : Int32)))], [], 1, 6)) (M' := (I, J, sm_rf 41 d)) rfl trivial ?_
        exact (hk20 _ _ _ h)
      · refine sm_W.run (sm_C_mono D) 1 (G := True) (fr' := (31, [none, none, some (.int x2), some (.int x3), some (.int x4)], [.int x4], 1, 6)) (M' := (I, J, sm_rf 41 d)) rfl trivial ?_
        cases h
        exact sm_W.ret (sm_C_mono D) rfl (hQ1 _ rfl)
theorem G_VM_slips_20 {X : Nat × (Nat → Int32)} {t d D : Nat} {Q : sm_Q} {I : sm_MI} {J : sm_MJ} {rz : (Int32 ⊕ Nat)}
    (hD : 2 ≤ D) (ht : t = 21 ∨ t = 41) (hQ1 : ∀ v, rz = .inl v → Q (.inl (some (.int v))) (I, J, sm_rf t d)) (hQ2 : ∀ E, rz = .inr E → Q (.inr E) (I, J, sm_rf t d))  : ∀ (n : Nat) (x2 : Int32) (x3 : Int32) (x4 : Int32), F_VM_slips_20 t I n x2 x3 x4 = some (rz) → sm_W sm_sh X (sm_C sm_sh X sm_P D) me_136 Q (20, [none, none, some (.int x2), some (.int x3), some (.int x4)], [], 1, 6) (I, J, sm_rf t d) := by
  intro n
  induction n with
  | zero => intro x2 x3 x4 h; cases (show (none : Option ((Int32 ⊕ Nat))) = some (rz) from h)
  | succ n ih => intro x2 x3 x4 h; exact G_VM_slips_20B hD ht (show F_VM_slips_20B t (F_VM_slips_20 t I n) x2 x3 x4 I = some (rz) from h) hQ1 hQ2  ih
theorem G_VM_slips {X : Nat × (Nat → Int32)} {t d D : Nat} {Q : sm_Q} {I : sm_MI} {J : sm_MJ} {x1 : Int32} {x2 : Int32} {rz : (Int32 ⊕ Nat)}
    (hD : 2 ≤ D) (ht : t = 21 ∨ t = 41) (h : F_VM_slips t x1 x2 I = some (rz)) (hQ1 : ∀ v, rz = .inl v → Q (.inl (some (.int v))) (I, J, sm_rf t d)) (hQ2 : ∀ E, rz = .inr E → Q (.inr E) (I, J, sm_rf t d))  : sm_W sm_sh X (sm_C sm_sh X sm_P D) me_136 Q (0, [some (.ref 0), some (.int x1), some (.int x2), none, none], [], 0, 0) (I, J, sm_rf t d) := by
  unfold F_VM_slips at h
  rcases ht with rfl | rfl
  · skip
    refine sm_W.run (sm_C_mono D) 2 (G := True) (fr' := (2, [some (.ref 0), some (.int x1), some (.int x2), none, none], [.int x1, .ref 0], 0, 0)) (M' := (I, J, sm_rf 21 d)) rfl trivial ?_
    rcases sd_t1_go h with ⟨r1, hc, h⟩ | ⟨r1, hc, h⟩
    · refine sm_W.cal (sm_C_mono D) (y := 152) (as := [.ref 0, .int x1]) (fr' := (3, [some (.ref 0), some (.int x1), some (.int x2), none, none], [], 1, 6)) rfl (T_VM_checkPiece (by omega) (by decide) hc (fun _ e => ?_) (fun _ e => by cases e))
      cases e
      show sm_W sm_sh X (sm_C sm_sh X sm_P D) me_136 Q (3, [some (.ref 0), some (.int x1), some (.int x2), none, none], [], 1, 6) (I, J, sm_rf 21 d)
      refine sm_W.run (sm_C_mono D) 2 (G := True) (fr' := (if decide (x2 < 0) = true then 8 else 5, [some (.ref 0), some (.int x1), some (.int x2), none, none], [], 1, 6)) (M' := (I, J, sm_rf 21 d)) rfl trivial (sm_W.iteD h (fun hc h => ?_) (fun hc h => ?_))
      · cases h
        exact sm_W.thr (sm_C_mono D) rfl (hQ2 _ rfl)
      · refine sm_W.run (sm_C_mono D) 3 (G := True) (fr' := (if decide (x2 ≤ (1000000000 : Int32)) = true then 13 else 8, [some (.ref 0), some (.int x1), some (.int x2), none, none], [], 1, 6)) (M' := (I, J, sm_rf 21 d)) rfl trivial (sm_W.iteD h (fun hc h => ?_) (fun hc h => ?_))
        · refine sm_W.run (sm_C_mono D) 3 (G := True) (fr' := (16, [some (.ref 0), some (.int x1), some (.int x2), none, none], [.int x1, .ref 21], 1, 6)) (M' := (I, J, sm_rf 21 d)) rfl trivial ?_
          obtain ⟨r2, hc, h⟩ := sd_q1_go h
          refine sm_W.cal (sm_C_mono D) (y := 87) (as := [.ref 21, .int x1]) (fr' := (17, [some (.ref 0), some (.int x1), some (.int x2), none, none], [], 1, 6)) rfl (T_Valley_notesIn (by omega) (by decide) hc ?_)
          show sm_W sm_sh X (sm_C sm_sh X sm_P D) me_136 Q (17, [some (.ref 0), some (.int x1), some (.int x2), none, none], [.int r2], 1, 6) (I, J, sm_rf 21 d)
          refine sm_W.run (sm_C_mono D) 3 (G := True) (fr' := (20, [some (.ref 0), some (.int x1), some (.int x2), some (.int r2), some (.int (0 : Int32))], [], 1, 6)) (M' := (I, J, sm_rf 21 d)) rfl trivial ?_
          exact sm_W.forget (L' := [none, none, some (.int x2), some (.int r2), some (.int (0 : Int32))]) ⟨rfl, ⟨rfl, ⟨rfl, trivial⟩⟩⟩ (G_VM_slips_20 hD (by decide) hQ1 hQ2 sd_fu _ _ _ h)
        · cases h
          exact sm_W.thr (sm_C_mono D) rfl (hQ2 _ rfl)
    · refine sm_W.cal (sm_C_mono D) (y := 152) (as := [.ref 0, .int x1]) (fr' := (3, [some (.ref 0), some (.int x1), some (.int x2), none, none], [], 1, 6)) rfl (T_VM_checkPiece (by omega) (by decide) hc (fun _ e => by cases e) (fun _ e => ?_))
      cases e
      cases h
      exact ⟨rfl, hQ2 _ rfl⟩
  · skip
    refine sm_W.run (sm_C_mono D) 2 (G := True) (fr' := (2, [some (.ref 0), some (.int x1), some (.int x2), none, none], [.int x1, .ref 0], 0, 0)) (M' := (I, J, sm_rf 41 d)) rfl trivial ?_
    rcases sd_t1_go h with ⟨r1, hc, h⟩ | ⟨r1, hc, h⟩
    · refine sm_W.cal (sm_C_mono D) (y := 152) (as := [.ref 0, .int x1]) (fr' := (3, [some (.ref 0), some (.int x1), some (.int x2), none, none], [], 1, 6)) rfl (T_VM_checkPiece (by omega) (by decide) hc (fun _ e => ?_) (fun _ e => by cases e))
      cases e
      show sm_W sm_sh X (sm_C sm_sh X sm_P D) me_136 Q (3, [some (.ref 0), some (.int x1), some (.int x2), none, none], [], 1, 6) (I, J, sm_rf 41 d)
      refine sm_W.run (sm_C_mono D) 2 (G := True) (fr' := (if decide (x2 < 0) = true then 8 else 5, [some (.ref 0), some (.int x1), some (.int x2), none, none], [], 1, 6)) (M' := (I, J, sm_rf 41 d)) rfl trivial (sm_W.iteD h (fun hc h => ?_) (fun hc h => ?_))
      · cases h
        exact sm_W.thr (sm_C_mono D) rfl (hQ2 _ rfl)
      · refine sm_W.run (sm_C_mono D) 3 (G := True) (fr' := (if decide (x2 ≤ (1000000000 : Int32)) = true then 13 else 8, [some (.ref 0), some (.int x1), some (.int x2), none, none], [], 1, 6)) (M' := (I, J, sm_rf 41 d)) rfl trivial (sm_W.iteD h (fun hc h => ?_) (fun hc h => ?_))
        · refine sm_W.run (sm_C_mono D) 3 (G := True) (fr' := (16, [some (.ref 0), some (.int x1), some (.int x2), none, none], [.int x1, .ref 41], 1, 6)) (M' := (I, J, sm_rf 41 d)) rfl trivial ?_
          obtain ⟨r2, hc, h⟩ := sd_q1_go h
          refine sm_W.cal (sm_C_mono D) (y := 87) (as := [.ref 41, .int x1]) (fr' := (17, [some (.ref 0), some (.int x1), some (.int x2), none, none], [], 1, 6)) rfl (T_Valley_notesIn (by omega) (by decide) hc ?_)
          show sm_W sm_sh X (sm_C sm_sh X sm_P D) me_136 Q (17, [some (.ref 0), some (.int x1), some (.int x2), none, none], [.int r2], 1, 6) (I, J, sm_rf 41 d)
          refine sm_W.run (sm_C_mono D) 3 (G := True) (fr' := (20, [some (.ref 0), some (.int x1), some (.int x2), some (.int r2), some (.int (0 : Int32))], [], 1, 6)) (M' := (I, J, sm_rf 41 d)) rfl trivial ?_
          exact sm_W.forget (L' := [none, none, some (.int x2), some (.int r2), some (.int (0 : Int32))]) ⟨rfl, ⟨rfl, ⟨rfl, trivial⟩⟩⟩ (G_VM_slips_20 hD (by decide) hQ1 hQ2 sd_fu _ _ _ h)
        · cases h
          exact sm_W.thr (sm_C_mono D) rfl (hQ2 _ rfl)
    · refine sm_W.cal (sm_C_mono D) (y := 152) (as := [.ref 0, .int x1]) (fr' := (3, [some (.ref 0), some (.int x1), some (.int x2), none, none], [], 1, 6)) rfl (T_VM_checkPiece (by omega) (by decide) hc (fun _ e => by cases e) (fun _ e => ?_))
      cases e
      cases h
      exact ⟨rfl, hQ2 _ rfl⟩
theorem T_VM_slips {X : Nat × (Nat → Int32)} {t d D : Nat} {Q : sm_Q} {I : sm_MI} {J : sm_MJ} {x1 : Int32} {x2 : Int32} {rz : (Int32 ⊕ Nat)}
    (hD : 3 ≤ D) (ht : t = 21 ∨ t = 41) (h : F_VM_slips t x1 x2 I = some (rz)) (hQ1 : ∀ v, rz = .inl v → Q (.inl (some (.int v))) (I, J, sm_rf t d)) (hQ2 : ∀ E, rz = .inr E → Q (.inr E) (I, J, sm_rf t d)) : sm_C sm_sh X sm_P D 136 [.ref 0, .int x1, .int x2] (I, J, sm_rf t d) Q := by
  cases D with
  | zero => omega
  | succ D => exact sm_C.of (me := me_136) (L := [some (.ref 0), some (.int x1), some (.int x2), none, none]) rfl rfl rfl (sm_W.forget (L' := [some (.ref 0), some (.int x1), some (.int x2), none, none]) ⟨rfl, ⟨rfl, ⟨rfl, trivial⟩⟩⟩ (G_VM_slips (by omega) ht h hQ1 hQ2))
-- 137 VM_hear
noncomputable def F_VM_hear_35 (t : Nat) (I : sm_MI) : Option ((Int32 ⊕ Nat) × sm_MI) :=
  sd_gu (sm_in (2 : Int32) 3 = true) <|
  sd_gu (sm_in (2 : Int32) 3 = true) <|
  sd_lt (sd_up I 1 2 ((I 1 2) + (1 : Int32))) fun I3 =>
  some (.inl (-1 : Int32), I3)
noncomputable def F_VM_hear_22 (t : Nat) (x3 : Int32) (x4 : Int32) (x5 : Int32) (s0 : Int32) (I : sm_MI) : Option ((Int32 ⊕ Nat) × sm_MI) :=
  if (8 : Int32) ≤ (I 8 6) then
    F_VM_hear_35 t I
  else
    if ¬ s0 = 0 then
      F_VM_hear_35 t I
    else
      if x4 < 0 then
        F_VM_hear_35 t I
      else
        if x4 ≤ (60 : Int32) then
          sd_gu (sm_in ((x5 * (12 : Int32)) + x3) 240 = true) <|
          sd_q1 (F_Story_addHeard x5 (I (t + 8) (Int32.toNatClampNeg ((x5 * (12 : Int32)) + x3))) x4 I) fun I2 =>
          some (.inl (I2 8 6), I2)
        else
          F_VM_hear_35 t I
noncomputable def F_VM_hear (t : Nat) (x1 : Int32) (x2 : Int32) (x3 : Int32) (x4 : Int32) (I : sm_MI) : Option ((Int32 ⊕ Nat) × sm_MI) :=
  sd_t1 (F_VM_checkRow t x1 x2 I) (fun r1 =>
    sd_lt ((x1 * (4 : Int32)) + x2) fun a2 =>
    if x3 < 0 then
      F_VM_hear_22 t x3 x4 a2 (1 : Int32) I
    else
      sd_gu (sm_in a2 20 = true) <|
      if x3 < (I (t + 7) (Int32.toNatClampNeg a2)) then
        F_VM_hear_22 t x3 x4 a2 (0 : Int32) I
      else
        F_VM_hear_22 t x3 x4 a2 (1 : Int32) I)
    (fun r1 => some (.inr r1, I))
theorem G_VM_hear_35 {X : Nat × (Nat → Int32)} {t d D : Nat} {Q : sm_Q} {I : sm_MI} {J : sm_MJ} {rz : (Int32 ⊕ Nat)} {Iz : sm_MI}
    (hD : 2 ≤ D) (ht : t = 21 ∨ t = 41) (h : F_VM_hear_35 t I = some (rz, Iz)) (hQ1 : ∀ v, rz = .inl v → Q (.inl (some (.int v))) (Iz, J, sm_rf t d)) (hQ2 : ∀ E, rz = .inr E → Q (.inr E) (Iz, J, sm_rf t d))  : sm_W sm_sh X (sm_C sm_sh X sm_P D) me_137 Q (35, [some (.ref 0), none, none, none, none, none, none], [], 2, 12) (I, J, sm_rf t d) := by
  unfold F_VM_hear_35 at h
  rcases ht with rfl | rfl
  · skip
    obtain ⟨g1, h⟩ := sd_gu_go h
    obtain ⟨g2, h⟩ := sd_gu_go h
    refine sm_W.runL (sm_C_mono D) 8 (G := sm_in (2 : Int32) 3 = true ∧ sm_in (2 : Int32) 3 = true ∧ True) (e := (sd_up I 1 2 ((I 1 2) + (1 : Int32)))) (fr' := fun _ => (43, [some (.ref 0), none, none, none, none, none, none], [], 2, 12)) (M' := fun I3 => (I3, J, sm_rf 21 d)) rfl h ⟨g1, g2, trivial⟩ (fun I3 h => ?_)
    refine sm_W.run (sm_C_mono D) 1 (G := True) (fr' := (44, [some (.ref 0), none, none, none, none, none, none], [.int (-1 : Int32)], 2, 12)) (M' := (I3, J, sm_rf 21 d)) rfl trivial ?_
    cases h
    exact sm_W.ret (sm_C_mono D) rfl (hQ1 _ rfl)
  · skip
    obtain ⟨g1, h⟩ := sd_gu_go h
    obtain ⟨g2, h⟩ := sd_gu_go h
    refine sm_W.runL (sm_C_mono D) 8 (G := sm_in (2 : Int32) 3 = true ∧ sm_in (2 : Int32) 3 = true ∧ True) (e := (sd_up I 1 2 ((I 1 2) + (1 : Int32)))) (fr' := fun _ => (43, [some (.ref 0), none, none, none, none, none, none], [], 2, 12)) (M' := fun I3 => (I3, J, sm_rf 41 d)) rfl h ⟨g1, g2, trivial⟩ (fun I3 h => ?_)
    refine sm_W.run (sm_C_mono D) 1 (G := True) (fr' := (44, [some (.ref 0), none, none, none, none, none, none], [.int (-1 : Int32)], 2, 12)) (M' := (I3, J, sm_rf 41 d)) rfl trivial ?_
    cases h
    exact sm_W.ret (sm_C_mono D) rfl (hQ1 _ rfl)
theorem G_VM_hear_22 {X : Nat × (Nat → Int32)} {t d D : Nat} {Q : sm_Q} {I : sm_MI} {J : sm_MJ} {x3 : Int32} {x4 : Int32} {x5 : Int32} {s0 : Int32} {rz : (Int32 ⊕ Nat)} {Iz : sm_MI}
    (hD : 2 ≤ D) (ht : t = 21 ∨ t = 41) (h : F_VM_hear_22 t x3 x4 x5 s0 I = some (rz, Iz)) (hQ1 : ∀ v, rz = .inl v → Q (.inl (some (.int v))) (Iz, J, sm_rf t d)) (hQ2 : ∀ E, rz = .inr E → Q (.inr E) (Iz, J, sm_rf t d))  : sm_W sm_sh X (sm_C sm_sh X sm_P D) me_137 Q (22, [some (.ref 0), none, none, some (.int x3), some (.int x4), some (.int x5), none], [.int s0], 2, 12) (I, J, sm_rf t d) := by
  unfold F_VM_hear_22 at h
  rcases ht with rfl | rfl
  · skip
    refine sm_W.run (sm_C_mono D) 6 (G := True) (fr' := (if decide ((8 : Int32) ≤ (I 8 6)) = true then 35 else 28, [some (.ref 0), none, none, some (.int x3), some (.int x4), some (.int x5), some (.int s0)], [], 2, 12)) (M' := (I, J, sm_rf 21 d)) rfl trivial (sm_W.iteD h (fun hc h => ?_) (fun hc h => ?_))
    · exact sm_W.forget (L' := [some (.ref 0), none, none, none, none, none, none]) ⟨rfl, trivial⟩ (G_VM_hear_35 hD (by decide) h hQ1 hQ2)
    · refine sm_W.run (sm_C_mono D) 2 (G := True) (fr' := (if decide (¬ s0 = 0) = true then 35 else 30, [some (.ref 0), none, none, some (.int x3), some (.int x4), some (.int x5), some (.int s0)], [], 2, 12)) (M' := (I, J, sm_rf 21 d)) rfl trivial (sm_W.iteD h (fun hc h => ?_) (fun hc h => ?_))
      · exact sm_W.forget (L' := [some (.ref 0), none, none, none, none, none, none]) ⟨rfl, trivial⟩ (G_VM_hear_35 hD (by decide) h hQ1 hQ2)
      · refine sm_W.run (sm_C_mono D) 2 (G := True) (fr' := (if decide (x4 < 0) = true then 35 else 32, [some (.ref 0), none, none, some (.int x3), some (.int x4), some (.int x5), some (.int s0)], [], 2, 12)) (M' := (I, J, sm_rf 21 d)) rfl trivial (sm_W.iteD h (fun hc h => ?_) (fun hc h => ?_))
        · exact sm_W.forget (L' := [some (.ref 0), none, none, none, none, none, none]) ⟨rfl, trivial⟩ (G_VM_hear_35 hD (by decide) h hQ1 hQ2)
        · refine sm_W.run (sm_C_mono D) 3 (G := True) (fr' := (if decide (x4 ≤ (60 : Int32)) = true then 45 else 35, [some (.ref 0), none, none, some (.int x3), some (.int x4), some (.int x5), some (.int s0)], [], 2, 12)) (M' := (I, J, sm_rf 21 d)) rfl trivial (sm_W.iteD h (fun hc h => ?_) (fun hc h => ?_))
          · obtain ⟨g1, h⟩ := sd_gu_go h
            refine sm_W.run (sm_C_mono D) 13 (G := sm_in ((x5 * (12 : Int32)) + x3) 240 = true ∧ True) (fr' := (58, [some (.ref 0), none, none, some (.int x3), some (.int x4), some (.int x5), some (.int s0)], [.int x4, .int (I (21 + 8) (Int32.toNatClampNeg ((x5 * (12 : Int32)) + x3))), .int x5, .ref 8], 2, 12)) (M' := (I, J, sm_rf 21 d)) rfl ⟨g1, trivial⟩ ?_
            obtain ⟨I2, hc, h⟩ := sd_q1_go h
            refine sm_W.cal (sm_C_mono D) (y := 22) (as := [.ref 8, .int x5, .int (I (21 + 8) (Int32.toNatClampNeg ((x5 * (12 : Int32)) + x3))), .int x4]) (fr' := (59, [some (.ref 0), none, none, some (.int x3), some (.int x4), some (.int x5), some (.int s0)], [], 2, 12)) rfl (T_Story_addHeard (by omega) hc ?_)
            show sm_W sm_sh X (sm_C sm_sh X sm_P D) me_137 Q (59, [some (.ref 0), none, none, some (.int x3), some (.int x4), some (.int x5), some (.int s0)], [], 2, 12) (I2, J, sm_rf 21 d)
            refine sm_W.run (sm_C_mono D) 3 (G := True) (fr' := (62, [some (.ref 0), none, none, some (.int x3), some (.int x4), some (.int x5), some (.int s0)], [.int (I2 8 6)], 2, 12)) (M' := (I2, J, sm_rf 21 d)) rfl trivial ?_
            cases h
            exact sm_W.ret (sm_C_mono D) rfl (hQ1 _ rfl)
          · exact sm_W.forget (L' := [some (.ref 0), none, none, none, none, none, none]) ⟨rfl, trivial⟩ (G_VM_hear_35 hD (by decide) h hQ1 hQ2)
  · skip
    refine sm_W.run (sm_C_mono D) 6 (G := True) (fr' := (if decide ((8 : Int32) ≤ (I 8 6)) = true then 35 else 28, [some (.ref 0), none, none, some (.int x3), some (.int x4), some (.int x5), some (.int s0)], [], 2, 12)) (M' := (I, J, sm_rf 41 d)) rfl trivial (sm_W.iteD h (fun hc h => ?_) (fun hc h => ?_))
    · exact sm_W.forget (L' := [some (.ref 0), none, none, none, none, none, none]) ⟨rfl, trivial⟩ (G_VM_hear_35 hD (by decide) h hQ1 hQ2)
    · refine sm_W.run (sm_C_mono D) 2 (G := True) (fr' := (if decide (¬ s0 = 0) = true then 35 else 30, [some (.ref 0), none, none, some (.int x3), some (.int x4), some (.int x5), some (.int s0)], [], 2, 12)) (M' := (I, J, sm_rf 41 d)) rfl trivial (sm_W.iteD h (fun hc h => ?_) (fun hc h => ?_))
      · exact sm_W.forget (L' := [some (.ref 0), none, none, none, none, none, none]) ⟨rfl, trivial⟩ (G_VM_hear_35 hD (by decide) h hQ1 hQ2)
      · refine sm_W.run (sm_C_mono D) 2 (G := True) (fr' := (if decide (x4 < 0) = true then 35 else 32, [some (.ref 0), none, none, some (.int x3), some (.int x4), some (.int x5), some (.int s0)], [], 2, 12)) (M' := (I, J, sm_rf 41 d)) rfl trivial (sm_W.iteD h (fun hc h => ?_) (fun hc h => ?_))
        · exact sm_W.forget (L' := [some (.ref 0), none, none, none, none, none, none]) ⟨rfl, trivial⟩ (G_VM_hear_35 hD (by decide) h hQ1 hQ2)
        · refine sm_W.run (sm_C_mono D) 3 (G := True) (fr' := (if decide (x4 ≤ (60 : Int32)) = true then 45 else 35, [some (.ref 0), none, none, some (.int x3), some (.int x4), some (.int x5), some (.int s0)], [], 2, 12)) (M' := (I, J, sm_rf 41 d)) rfl trivial (sm_W.iteD h (fun hc h => ?_) (fun hc h => ?_))
          · obtain ⟨g1, h⟩ := sd_gu_go h
            refine sm_W.run (sm_C_mono D) 13 (G := sm_in ((x5 * (12 : Int32)) + x3) 240 = true ∧ True) (fr' := (58, [some (.ref 0), none, none, some (.int x3), some (.int x4), some (.int x5), some (.int s0)], [.int x4, .int (I (41 + 8) (Int32.toNatClampNeg ((x5 * (12 : Int32)) + x3))), .int x5, .ref 8], 2, 12)) (M' := (I, J, sm_rf 41 d)) rfl ⟨g1, trivial⟩ ?_
            obtain ⟨I2, hc, h⟩ := sd_q1_go h
            refine sm_W.cal (sm_C_mono D) (y := 22) (as := [.ref 8, .int x5, .int (I (41 + 8) (Int32.toNatClampNeg ((x5 * (12 : Int32)) + x3))), .int x4]) (fr' := (59, [some (.ref 0), none, none, some (.int x3), some (.int x4), some (.int x5), some (.int s0)], [], 2, 12)) rfl (T_Story_addHeard (by omega) hc ?_)
            show sm_W sm_sh X (sm_C sm_sh X sm_P D) me_137 Q (59, [some (.ref 0), none, none, some (.int x3), some (.int x4), some (.int x5), some (.int s0)], [], 2, 12) (I2, J, sm_rf 41 d)
            refine sm_W.run (sm_C_mono D) 3 (G := True) (fr' := (62, [some (.ref 0), none, none, some (.int x3), some (.int x4), some (.int x5), some (.int s0)], [.int (I2 8 6)], 2, 12)) (M' := (I2, J, sm_rf 41 d)) rfl trivial ?_
            cases h
            exact sm_W.ret (sm_C_mono D) rfl (hQ1 _ rfl)
          · exact sm_W.forget (L' := [some (.ref 0), none, none, none, none, none, none]) ⟨rfl, trivial⟩ (G_VM_hear_35 hD (by decide) h hQ1 hQ2)
theorem G_VM_hear {X : Nat × (Nat → Int32)} {t d D : Nat} {Q : sm_Q} {I : sm_MI} {J : sm_MJ} {x1 : Int32} {x2 : Int32} {x3 : Int32} {x4 : Int32} {rz : (Int32 ⊕ Nat)} {Iz : sm_MI}
    (hD : 2 ≤ D) (ht : t = 21 ∨ t = 41) (h : F_VM_hear t x1 x2 x3 x4 I = some (rz, Iz)) (hQ1 : ∀ v, rz = .inl v → Q (.inl (some (.int v))) (Iz, J, sm_rf t d)) (hQ2 : ∀ E, rz = .inr E → Q (.inr E) (Iz, J, sm_rf t d))  : sm_W sm_sh X (sm_C sm_sh X sm_P D) me_137 Q (0, [some (.ref 0), some (.int x1), some (.int x2), some (.int x3), some (.int x4), none, none], [], 0, 0) (I, J, sm_rf t d) := by
  unfold F_VM_hear at h
  rcases ht with rfl | rfl
  · skip
    refine sm_W.run (sm_C_mono D) 3 (G := True) (fr' := (3, [some (.ref 0), some (.int x1), some (.int x2), some (.int x3), some (.int x4), none, none], [.int x2, .int x1, .ref 0], 0, 0)) (M' := (I, J, sm_rf 21 d)) rfl trivial ?_
    rcases sd_t1_go h with ⟨r1, hc, h⟩ | ⟨r1, hc, h⟩
    · refine sm_W.cal (sm_C_mono D) (y := 154) (as := [.ref 0, .int x1, .int x2]) (fr' := (4, [some (.ref 0), some (.int x1), some (.int x2), some (.int x3), some (.int x4), none, none], [], 2, 12)) rfl (T_VM_checkRow (by omega) (by decide) hc (fun _ e => ?_) (fun _ e => by cases e))
      cases e
      show sm_W sm_sh X (sm_C sm_sh X sm_P D) me_137 Q (4, [some (.ref 0), some (.int x1), some (.int x2), some (.int x3), some (.int x4), none, none], [], 2, 12) (I, J, sm_rf 21 d)
      refine sm_W.runL (sm_C_mono D) 6 (G := True) (e := ((x1 * (4 : Int32)) + x2)) (fr' := fun a2 => (10, [some (.ref 0), some (.int x1), some (.int x2), some (.int x3), some (.int x4), some (.int a2), none], [], 2, 12)) (M' := fun _ => (I, J, sm_rf 21 d)) rfl h trivial (fun a2 h => ?_)
      refine sm_W.run (sm_C_mono D) 2 (G := True) (fr' := (if decide (x3 < 0) = true then 19 else 12, [some (.ref 0), some (.int x1), some (.int x2), some (.int x3), some (.int x4), some (.int a2), none], [], 2, 12)) (M' := (I, J, sm_rf 21 d)) rfl trivial (sm_W.iteD h (fun hc h => ?_) (fun hc h => ?_))
      · refine sm_W.run (sm_C_mono D) 2 (G := True) (fr' := (22, [some (.ref 0), some (.int x1), some (.int x2), some (.int x3), some (.int x4), some (.int a2), none], [.int (1 : Int32)], 2, 12)) (M' := (I, J, sm_rf 21 d)) rfl trivial ?_
        exact sm_W.forget (L' := [some (.ref 0), none, none, some (.int x3), some (.int x4), some (.int a2), none]) ⟨rfl, ⟨rfl, ⟨rfl, ⟨rfl, trivial⟩⟩⟩⟩ (G_VM_hear_22 hD (by decide) h hQ1 hQ2)
      · obtain ⟨g3, h⟩ := sd_gu_go h
        refine sm_W.run (sm_C_mono D) 7 (G := sm_in a2 20 = true ∧ True) (fr' := (if decide (x3 < (I (21 + 7) (Int32.toNatClampNeg a2))) = true then 21 else 19, [some (.ref 0), some (.int x1), some (.int x2), some (.int x3), some (.int x4), some (.int a2), none], [], 2, 12)) (M' := (I, J, sm_rf 21 d)) rfl ⟨g3, trivial⟩ (sm_W.iteD h (fun hc h => ?_) (fun hc h => ?_))
        · refine sm_W.run (sm_C_mono D) 1 (G := True) (fr' := (22, [some (.ref 0), some (.int x1), some (.int x2), some (.int x3), some (.int x4), some (.int a2), none], [.int (0 : Int32)], 2, 12)) (M' := (I, J, sm_rf 21 d)) rfl trivial ?_
          exact sm_W.forget (L' := [some (.ref 0), none, none, some (.int x3), some (.int x4), some (.int a2), none]) ⟨rfl, ⟨rfl, ⟨rfl, ⟨rfl, trivial⟩⟩⟩⟩ (G_VM_hear_22 hD (by decide) h hQ1 hQ2)
        · refine sm_W.run (sm_C_mono D) 2 (G := True) (fr' := (22, [some (.ref 0), some (.int x1), some (.int x2), some (.int x3), some (.int x4), some (.int a2), none], [.int (1 : Int32)], 2, 12)) (M' := (I, J, sm_rf 21 d)) rfl trivial ?_
          exact sm_W.forget (L' := [some (.ref 0), none, none, some (.int x3), some (.int x4), some (.int a2), none]) ⟨rfl, ⟨rfl, ⟨rfl, ⟨rfl, trivial⟩⟩⟩⟩ (G_VM_hear_22 hD (by decide) h hQ1 hQ2)
    · refine sm_W.cal (sm_C_mono D) (y := 154) (as := [.ref 0, .int x1, .int x2]) (fr' := (4, [some (.ref 0), some (.int x1), some (.int x2), some (.int x3), some (.int x4), none, none], [], 2, 12)) rfl (T_VM_checkRow (by omega) (by decide) hc (fun _ e => by cases e) (fun _ e => ?_))
      cases e
      cases h
      exact ⟨rfl, hQ2 _ rfl⟩
  · skip
    refine sm_W.run (sm_C_mono D) 3 (G := True) (fr' := (3, [some (.ref 0), some (.int x1), some (.int x2), some (.int x3), some (.int x4), none, none], [.int x2, .int x1, .ref 0], 0, 0)) (M' := (I, J, sm_rf 41 d)) rfl trivial ?_
    rcases sd_t1_go h with ⟨r1, hc, h⟩ | ⟨r1, hc, h⟩
    · refine sm_W.cal (sm_C_mono D) (y := 154) (as := [.ref 0, .int x1, .int x2]) (fr' := (4, [some (.ref 0), some (.int x1), some (.int x2), some (.int x3), some (.int x4), none, none], [], 2, 12)) rfl (T_VM_checkRow (by omega) (by decide) hc (fun _ e => ?_) (fun _ e => by cases e))
      cases e
      show sm_W sm_sh X (sm_C sm_sh X sm_P D) me_137 Q (4, [some (.ref 0), some (.int x1), some (.int x2), some (.int x3), some (.int x4), none, none], [], 2, 12) (I, J, sm_rf 41 d)
      refine sm_W.runL (sm_C_mono D) 6 (G := True) (e := ((x1 * (4 : Int32)) + x2)) (fr' := fun a2 => (10, [some (.ref 0), some (.int x1), some (.int x2), some (.int x3), some (.int x4), some (.int a2), none], [], 2, 12)) (M' := fun _ => (I, J, sm_rf 41 d)) rfl h trivial (fun a2 h => ?_)
      refine sm_W.run (sm_C_mono D) 2 (G := True) (fr' := (if decide (x3 < 0) = true then 19 else 12, [some (.ref 0), some (.int x1), some (.int x2), some (.int x3), some (.int x4), some (.int a2), none], [], 2, 12)) (M' := (I, J, sm_rf 41 d)) rfl trivial (sm_W.iteD h (fun hc h => ?_) (fun hc h => ?_))
      · refine sm_W.run (sm_C_mono D) 2 (G := True) (fr' := (22, [some (.ref 0), some (.int x1), some (.int x2), some (.int x3), some (.int x4), some (.int a2), none], [.int (1 : Int32)], 2, 12)) (M' := (I, J, sm_rf 41 d)) rfl trivial ?_
        exact sm_W.forget (L' := [some (.ref 0), none, none, some (.int x3), some (.int x4), some (.int a2), none]) ⟨rfl, ⟨rfl, ⟨rfl, ⟨rfl, trivial⟩⟩⟩⟩ (G_VM_hear_22 hD (by decide) h hQ1 hQ2)
      · obtain ⟨g3, h⟩ := sd_gu_go h
        refine sm_W.run (sm_C_mono D) 7 (G := sm_in a2 20 = true ∧ True) (fr' := (if decide (x3 < (I (41 + 7) (Int32.toNatClampNeg a2))) = true then 21 else 19, [some (.ref 0), some (.int x1), some (.int x2), some (.int x3), some (.int x4), some (.int a2), none], [], 2, 12)) (M' := (I, J, sm_rf 41 d)) rfl ⟨g3, trivial⟩ (sm_W.iteD h (fun hc h => ?_) (fun hc h => ?_))
        · refine sm_W.run (sm_C_mono D) 1 (G := True) (fr' := (22, [some (.ref 0), some (.int x1), some (.int x2), some (.int x3), some (.int x4), some (.int a2), none], [.int (0 : Int32)], 2, 12)) (M' := (I, J, sm_rf 41 d)) rfl trivial ?_
          exact sm_W.forget (L' := [some (.ref 0), none, none, some (.int x3), some (.int x4), some (.int a2), none]) ⟨rfl, ⟨rfl, ⟨rfl, ⟨rfl, trivial⟩⟩⟩⟩ (G_VM_hear_22 hD (by decide) h hQ1 hQ2)
        · refine sm_W.run (sm_C_mono D) 2 (G := True) (fr' := (22, [some (.ref 0), some (.int x1), some (.int x2), some (.int x3), some (.int x4), some (.int a2), none], [.int (1 : Int32)], 2, 12)) (M' := (I, J, sm_rf 41 d)) rfl trivial ?_
          exact sm_W.forget (L' := [some (.ref 0), none, none, some (.int x3), some (.int x4), some (.int a2), none]) ⟨rfl, ⟨rfl, ⟨rfl, ⟨rfl, trivial⟩⟩⟩⟩ (G_VM_hear_22 hD (by decide) h hQ1 hQ2)
    · refine sm_W.cal (sm_C_mono D) (y := 154) (as := [.ref 0, .int x1, .int x2]) (fr' := (4, [some (.ref 0), some (.int x1), some (.int x2), some (.int x3), some (.int x4), none, none], [], 2, 12)) rfl (T_VM_checkRow (by omega) (by decide) hc (fun _ e => by cases e) (fun _ e => ?_))
      cases e
      cases h
      exact ⟨rfl, hQ2 _ rfl⟩
theorem T_VM_hear {X : Nat × (Nat → Int32)} {t d D : Nat} {Q : sm_Q} {I : sm_MI} {J : sm_MJ} {x1 : Int32} {x2 : Int32} {x3 : Int32} {x4 : Int32} {rz : (Int32 ⊕ Nat)} {Iz : sm_MI}
    (hD : 3 ≤ D) (ht : t = 21 ∨ t = 41) (h : F_VM_hear t x1 x2 x3 x4 I = some (rz, Iz)) (hQ1 : ∀ v, rz = .inl v → Q (.inl (some (.int v))) (Iz, J, sm_rf t d)) (hQ2 : ∀ E, rz = .inr E → Q (.inr E) (Iz, J, sm_rf t d)) : sm_C sm_sh X sm_P D 137 [.ref 0, .int x1, .int x2, .int x3, .int x4] (I, J, sm_rf t d) Q := by
  cases D with
  | zero => omega
  | succ D => exact sm_C.of (me := me_137) (L := [some (.ref 0), some (.int x1), some (.int x2), some (.int x3), some (.int x4), none, none]) rfl rfl rfl (sm_W.forget (L' := [some (.ref 0), some (.int x1), some (.int x2), some (.int x3), some (.int x4), none, none]) ⟨rfl, ⟨rfl, ⟨rfl, ⟨rfl, ⟨rfl, trivial⟩⟩⟩⟩⟩ (G_VM_hear (by omega) ht h hQ1 hQ2))
-- 139 VM_allHeardIsSo
noncomputable def F_VM_allHeardIsSo_55 (t : Nat) (k2 : Int32 → Int32 → Int32 → Option (Int32)) (x1 : Int32) (x2 : Int32) (x3 : Int32) (s0 : Int32) (I : sm_MI) : Option (Int32) :=
  sd_gu (sm_in x3 8 = true) <|
  if (I 13 (Int32.toNatClampNeg x3)) = s0 then
    k2 x1 x2 (x3 + (1 : Int32))
  else
    some ((0 : Int32))
noncomputable def F_VM_allHeardIsSo_39 (t : Nat) (k2 : Int32 → Int32 → Int32 → Option (Int32)) (x1 : Int32) (x2 : Int32) (x3 : Int32) (s0 : Int32) (I : sm_MI) : Option (Int32) :=
  if s0 = 0 then
    sd_gu (sm_in x3 8 = true) <|
    F_VM_allHeardIsSo_55 t k2 x1 x2 x3 (I 12 (Int32.toNatClampNeg x3)) I
  else
    sd_gu (sm_in x3 8 = true) <|
    F_VM_allHeardIsSo_55 t k2 x1 x2 x3 ((I 12 (Int32.toNatClampNeg x3)) - x2) I
noncomputable def F_VM_allHeardIsSo_2B (t : Nat) (k2 : Int32 → Int32 → Int32 → Option (Int32)) (x1 : Int32) (x2 : Int32) (x3 : Int32) (I : sm_MI) : Option (Int32) :=
  if (I 8 6) ≤ x3 then
    some ((1 : Int32))
  else
    if (8 : Int32) ≤ x3 then
      some ((1 : Int32))
    else
      sd_gu (sm_in x3 8 = true) <|
      sd_lt (I 11 (Int32.toNatClampNeg x3)) fun a2 =>
      if a2 < 0 then
        some ((0 : Int32))
      else
        if a2 < (20 : Int32) then
          sd_gu (sm_in a2 20 = true) <|
          if (((I (t + 11) (Int32.toNatClampNeg a2)) &&& (I 9 0)) &&& x1) = 0 then
            F_VM_allHeardIsSo_39 t k2 x1 x2 x3 (0 : Int32) I
          else
            F_VM_allHeardIsSo_39 t k2 x1 x2 x3 (1 : Int32) I
        else
          some ((0 : Int32))
noncomputable def F_VM_allHeardIsSo_2 (t : Nat) (I : sm_MI) (n : Nat) : Int32 → Int32 → Int32 → Option (Int32) :=
  sd_fix (fun k x1 x2 x3 => F_VM_allHeardIsSo_2B t k x1 x2 x3 I) (fun _ _ _ => none) n
noncomputable def F_VM_allHeardIsSo (t : Nat) (x1 : Int32) (x2 : Int32) (I : sm_MI) : Option (Int32) :=
  F_VM_allHeardIsSo_2 t I sd_fu x1 x2 (0 : Int32)
theorem G_VM_allHeardIsSo_55 {X : Nat × (Nat → Int32)} {t d D : Nat} {Q : sm_Q} {I : sm_MI} {J : sm_MJ} {k2 : Int32 → Int32 → Int32 → Option (Int32)} {x1 : Int32} {x2 : Int32} {x3 : Int32} {s0 : Int32} {rz : Int32}
    (hD : 0 ≤ D) (ht : t = 21 ∨ t = 41) (h : F_VM_allHeardIsSo_55 t k2 x1 x2 x3 s0 I = some (rz)) (hQ : Q (.inl (some (.int rz))) (I, J, sm_rf t d)) (hk2 : ∀ (x1 : Int32) (x2 : Int32) (x3 : Int32), k2 x1 x2 x3 = some (rz) → sm_W sm_sh X (sm_C sm_sh X sm_P D) me_139 Q (2, [some (.ref 0), some (.int x1), some (.int x2), some (.int x3), none, none, none], [], 0, 0) (I, J, sm_rf t d)) : sm_W sm_sh X (sm_C sm_sh X sm_P D) me_139 Q (55, [some (.ref 0), some (.int x1), some (.int x2), some (.int x3), none, none, none], [.int s0], 0, 0) (I, J, sm_rf t d) := by
  unfold F_VM_allHeardIsSo_55 at h
  rcases ht with rfl | rfl
  · skip
    obtain ⟨g1, h⟩ := sd_gu_go h
    refine sm_W.run (sm_C_mono D) 8 (G := sm_in x3 8 = true ∧ True) (fr' := (if decide ((I 13 (Int32.toNatClampNeg x3)) = s0) = true then 65 else 63, [some (.ref 0), some (.int x1), some (.int x2), some (.int x3), none, none, some (.int s0)], [], 0, 0)) (M' := (I, J, sm_rf 21 d)) rfl ⟨g1, trivial⟩ (sm_W.iteD h (fun hc h => ?_) (fun hc h => ?_))
    · refine sm_W.run (sm_C_mono D) 2 (G := True) (fr' := (2, [some (.ref 0), some (.int x1), some (.int x2), some (.int (x3 + (1 : Int32))), none, none, some (.int s0)], [], 0, 0)) (M' := (I, J, sm_rf 21 d)) rfl trivial ?_
      exact sm_W.forget (L' := [some (.ref 0), some (.int x1), some (.int x2), some (.int (x3 + (1 : Int32))), none, none, none]) ⟨rfl, ⟨rfl, ⟨rfl, ⟨rfl, trivial⟩⟩⟩⟩ (hk2 _ _ _ h)
    · refine sm_W.run (sm_C_mono D) 1 (G := True) (fr' := (64, [some (.ref 0), some (.int x1), some (.int x2), some (.int x3), none, none, some (.int s0)], [.int (0 : Int32)], 0, 0)) (M' := (I, J, sm_rf 21 d)) rfl trivial ?_
      cases h
      exact sm_W.ret (sm_C_mono D) rfl hQ
  · skip
    obtain ⟨g1, h⟩ := sd_gu_go h
    refine sm_W.run (sm_C_mono D) 8 (G := sm_in x3 8 = true ∧ True) (fr' := (if decide ((I 13 (Int32.toNatClampNeg x3)) = s0) = true then 65 else 63, [some (.ref 0), some (.int x1), some (.int x2), some (.int x3), none, none, some (.int s0)], [], 0, 0)) (M' := (I, J, sm_rf 41 d)) rfl ⟨g1, trivial⟩ (sm_W.iteD h (fun hc h => ?_) (fun hc h => ?_))
    · refine sm_W.run (sm_C_mono D) 2 (G := True) (fr' := (2, [some (.ref 0), some (.int x1), some (.int x2), some (.int (x3 + (1 : Int32))), none, none, some (.int s0)], [], 0, 0)) (M' := (I, J, sm_rf 41 d)) rfl trivial ?_
      exact sm_W.forget (L' := [some (.ref 0), some (.int x1), some (.int x2), some (.int (x3 + (1 : Int32))), none, none, none]) ⟨rfl, ⟨rfl, ⟨rfl, ⟨rfl, trivial⟩⟩⟩⟩ (hk2 _ _ _ h)
    · refine sm_W.run (sm_C_mono D) 1 (G := True) (fr' := (64, [some (.ref 0), some (.int x1), some (.int x2), some (.int x3), none, none, some (.int s0)], [.int (0 : Int32)], 0, 0)) (M' := (I, J, sm_rf 41 d)) rfl trivial ?_
      cases h
      exact sm_W.ret (sm_C_mono D) rfl hQ
theorem G_VM_allHeardIsSo_39 {X : Nat × (Nat → Int32)} {t d D : Nat} {Q : sm_Q} {I : sm_MI} {J : sm_MJ} {k2 : Int32 → Int32 → Int32 → Option (Int32)} {x1 : Int32} {x2 : Int32} {x3 : Int32} {s0 : Int32} {rz : Int32}
    (hD : 0 ≤ D) (ht : t = 21 ∨ t = 41) (h : F_VM_allHeardIsSo_39 t k2 x1 x2 x3 s0 I = some (rz)) (hQ : Q (.inl (some (.int rz))) (I, J, sm_rf t d)) (hk2 : ∀ (x1 : Int32) (x2 : Int32) (x3 : Int32), k2 x1 x2 x3 = some (rz) → sm_W sm_sh X (sm_C sm_sh X sm_P D) me_139 Q (2, [some (.ref 0), some (.int x1), some (.int x2), some (.int x3), none, none, none], [], 0, 0) (I, J, sm_rf t d)) : sm_W sm_sh X (sm_C sm_sh X sm_P D) me_139 Q (39, [some (.ref 0), some (.int x1), some (.int x2), some (.int x3), none, none, none], [.int s0], 0, 0) (I, J, sm_rf t d) := by
  unfold F_VM_allHeardIsSo_39 at h
  rcases ht with rfl | rfl
  · skip
    refine sm_W.run (sm_C_mono D) 3 (G := True) (fr' := (if decide (s0 = 0) = true then 50 else 42, [some (.ref 0), some (.int x1), some (.int x2), some (.int x3), none, some (.int s0), none], [], 0, 0)) (M' := (I, J, sm_rf 21 d)) rfl trivial (sm_W.iteD h (fun hc h => ?_) (fun hc h => ?_))
    · obtain ⟨g1, h⟩ := sd_gu_go h
      refine sm_W.run (sm_C_mono D) 5 (G := sm_in x3 8 = true ∧ True) (fr' := (55, [some (.ref 0), some (.int x1), some (.int x2), some (.int x3), none, some (.int s0), none], [.int (I 12 (Int32.toNatClampNeg x3))], 0, 0)) (M' := (I, J, sm_rf 21 d)) rfl ⟨g1, trivial⟩ ?_
      exact sm_W.forget (L' := [some (.ref 0), some (.int x1), some (.int x2), some (.int x3), none, none, none]) ⟨rfl, ⟨rfl, ⟨rfl, ⟨rfl, trivial⟩⟩⟩⟩ (G_VM_allHeardIsSo_55 hD (by decide) h hQ hk2)
    · obtain ⟨g2, h⟩ := sd_gu_go h
      refine sm_W.run (sm_C_mono D) 8 (G := sm_in x3 8 = true ∧ True) (fr' := (55, [some (.ref 0), some (.int x1), some (.int x2), some (.int x3), none, some (.int s0), none], [.int ((I 12 (Int32.toNatClampNeg x3)) - x2)], 0, 0)) (M' := (I, J, sm_rf 21 d)) rfl ⟨g2, trivial⟩ ?_
      exact sm_W.forget (L' := [some (.ref 0), some (.int x1), some (.int x2), some (.int x3), none, none, none]) ⟨rfl, ⟨rfl, ⟨rfl, ⟨rfl, trivial⟩⟩⟩⟩ (G_VM_allHeardIsSo_55 hD (by decide) h hQ hk2)
  · skip
    refine sm_W.run (sm_C_mono D) 3 (G := True) (fr' := (if decide (s0 = 0) = true then 50 else 42, [some (.ref 0), some (.int x1), some (.int x2), some (.int x3), none, some (.int s0), none], [], 0, 0)) (M' := (I, J, sm_rf 41 d)) rfl trivial (sm_W.iteD h (fun hc h => ?_) (fun hc h => ?_))
    · obtain ⟨g1, h⟩ := sd_gu_go h
      refine sm_W.run (sm_C_mono D) 5 (G := sm_in x3 8 = true ∧ True) (fr' := (55, [some (.ref 0), some (.int x1), some (.int x2), some (.int x3), none, some (.int s0), none], [.int (I 12 (Int32.toNatClampNeg x3))], 0, 0)) (M' := (I, J, sm_rf 41 d)) rfl ⟨g1, trivial⟩ ?_
      exact sm_W.forget (L' := [some (.ref 0), some (.int x1), some (.int x2), some (.int x3), none, none, none]) ⟨rfl, ⟨rfl, ⟨rfl, ⟨rfl, trivial⟩⟩⟩⟩ (G_VM_allHeardIsSo_55 hD (by decide) h hQ hk2)
    · obtain ⟨g2, h⟩ := sd_gu_go h
      refine sm_W.run (sm_C_mono D) 8 (G := sm_in x3 8 = true ∧ True) (fr' := (55, [some (.ref 0), some (.int x1), some (.int x2), some (.int x3), none, some (.int s0), none], [.int ((I 12 (Int32.toNatClampNeg x3)) - x2)], 0, 0)) (M' := (I, J, sm_rf 41 d)) rfl ⟨g2, trivial⟩ ?_
      exact sm_W.forget (L' := [some (.ref 0), some (.int x1), some (.int x2), some (.int x3), none, none, none]) ⟨rfl, ⟨rfl, ⟨rfl, ⟨rfl, trivial⟩⟩⟩⟩ (G_VM_allHeardIsSo_55 hD (by decide) h hQ hk2)
theorem G_VM_allHeardIsSo_2B {X : Nat × (Nat → Int32)} {t d D : Nat} {Q : sm_Q} {I : sm_MI} {J : sm_MJ} {k2 : Int32 → Int32 → Int32 → Option (Int32)} {x1 : Int32} {x2 : Int32} {x3 : Int32} {rz : Int32}
    (hD : 0 ≤ D) (ht : t = 21 ∨ t = 41) (h : F_VM_allHeardIsSo_2B t k2 x1 x2 x3 I = some (rz)) (hQ : Q (.inl (some (.int rz))) (I, J, sm_rf t d)) (hk2 : ∀ (x1 : Int32) (x2 : Int32) (x3 : Int32), k2 x1 x2 x3 = some (rz) → sm_W sm_sh X (sm_C sm_sh X sm_P D) me_139 Q (2, [some (.ref 0), some (.int x1), some (.int x2), some (.int x3), none, none, none], [], 0, 0) (I, J, sm_rf t d)) : sm_W sm_sh X (sm_C sm_sh X sm_P D) me_139 Q (2, [some (.ref 0), some (.int x1), some (.int x2), some (.int x3), none, none, none], [], 0, 0) (I, J, sm_rf t d) := by
  unfold F_VM_allHeardIsSo_2B at h
  rcases ht with rfl | rfl
  · skip
    refine sm_W.run (sm_C_mono D) 5 (G := True) (fr' := (if decide ((I 8 6) ≤ x3) = true then 67 else 7, [some (.ref 0), some (.int x1), some (.int x2), some (.int x3), none, none, none], [], 0, 0)) (M' := (I, J, sm_rf 21 d)) rfl trivial (sm_W.iteD h (fun hc h => ?_) (fun hc h => ?_))
    · refine sm_W.run (sm_C_mono D) 1 (G := True) (fr' := (68, [some (.ref 0), some (.int x1), some (.int x2), some (.int x3), none, none, none], [.int (1 : Int32)], 0, 0)) (M' := (I, J, sm_rf 21 d)) rfl trivial ?_
      cases h
      exact sm_W.ret (sm_C_mono D) rfl hQ
    · refine sm_W.run (sm_C_mono D) 3 (G := True) (fr' := (if decide ((8 : Int32) ≤ x3) = true then 67 else 10, [some (.ref 0), some (.int x1), some (.int x2), some (.int x3), none, none, none], [], 0, 0)) (M' := (I, J, sm_rf 21 d)) rfl trivial (sm_W.iteD h (fun hc h => ?_) (fun hc h => ?_))
      · refine sm_W.run (sm_C_mono D) 1 (G := True) (fr' := (68, [some (.ref 0), some (.int x1), some (.int x2), some (.int x3), none, none, none], [.int (1 : Int32)], 0, 0)) (M' := (I, J, sm_rf 21 d)) rfl trivial ?_
        cases h
        exact sm_W.ret (sm_C_mono D) rfl hQ
      · obtain ⟨g1, h⟩ := sd_gu_go h
        refine sm_W.runL (sm_C_mono D) 6 (G := sm_in x3 8 = true ∧ True) (e := (I 11 (Int32.toNatClampNeg x3))) (fr' := fun a2 => (16, [some (.ref 0), some (.int x1), some (.int x2), some (.int x3), some (.int a2), none, none], [], 0, 0)) (M' := fun _ => (I, J, sm_rf 21 d)) rfl h ⟨g1, trivial⟩ (fun a2 h => ?_)
        refine sm_W.run (sm_C_mono D) 2 (G := True) (fr' := (if decide (a2 < 0) = true then 21 else 18, [some (.ref 0), some (.int x1), some (.int x2), some (.int x3), some (.int a2), none, none], [], 0, 0)) (M' := (I, J, sm_rf 21 d)) rfl trivial (sm_W.iteD h (fun hc h => ?_) (fun hc h => ?_))
        · refine sm_W.run (sm_C_mono D) 1 (G := True) (fr' := (22, [some (.ref 0), some (.int x1), some (.int x2), some (.int x3), some (.int a2), none, none], [.int (0 : Int32)], 0, 0)) (M' := (I, J, sm_rf 21 d)) rfl trivial ?_
          cases h
          exact sm_W.ret (sm_C_mono D) rfl hQ
        · refine sm_W.run (sm_C_mono D) 3 (G := True) (fr' := (if decide (a2 < (20 : Int32)) = true then 23 else 21, [some (.ref 0), some (.int x1), some (.int x2), some (.int x3), some (.int a2), none, none], [], 0, 0)) (M' := (I, J, sm_rf 21 d)) rfl trivial (sm_W.iteD h (fun hc h => ?_) (fun hc h => ?_))
          · obtain ⟨g3, h⟩ := sd_gu_go h
            refine sm_W.run (sm_C_mono D) 13 (G := sm_in a2 20 = true ∧ True) (fr' := (if decide ((((I (21 + 11) (Int32.toNatClampNeg a2)) &&& (I 9 0)) &&& x1) = 0) = true then 38 else 36, [some (.ref 0), some (.int x1), some (.int x2), some (.int x3), some (.int a2), none, none], [], 0, 0)) (M' := (I, J, sm_rf 21 d)) rfl ⟨g3, trivial⟩ (sm_W.iteD h (fun hc h => ?_) (fun hc h => ?_))
            · refine sm_W.run (sm_C_mono D) 1 (G := True) (fr' := (39, [some (.ref 0), some (.int x1), some (.int x2), some (.int x3), some (.int a2), none, none], [.int (0 : Int32)], 0, 0)) (M' := (I, J, sm_rf 21 d)) rfl trivial ?_
              exact sm_W.forget (L' := [some (.ref 0), some (.int x1), some (.int x2), some (.int x3), none, none, none]) ⟨rfl, ⟨rfl, ⟨rfl, ⟨rfl, trivial⟩⟩⟩⟩ (G_VM_allHeardIsSo_39 hD (by decide) h hQ hk2)
            · refine sm_W.run (sm_C_mono D) 2 (G := True) (fr' := (39, [some (.ref 0), some (.int x1), some (.int x2), some (.int x3), some (.int a2), none, none], [.int (1 : Int32)], 0, 0)) (M' := (I, J, sm_rf 21 d)) rfl trivial ?_
              exact sm_W.forget (L' := [some (.ref 0), some (.int x1), some (.int x2), some (.int x3), none, none, none]) ⟨rfl, ⟨rfl, ⟨rfl, ⟨rfl, trivial⟩⟩⟩⟩ (G_VM_allHeardIsSo_39 hD (by decide) h hQ hk2)
          · refine sm_W.run (sm_C_mono D) 1 (G := True) (fr' := (22, [some (.ref 0), some (.int x1), some (.int x2), some (.int x3), some (.int a2), none, none], [.int (0 : Int32)], 0, 0)) (M' := (I, J, sm_rf 21 d)) rfl trivial ?_
            cases h
            exact sm_W.ret (sm_C_mono D) rfl hQ
  · skip
    refine sm_W.run (sm_C_mono D) 5 (G := True) (fr' := (if decide ((I 8 6) ≤ x3) = true then 67 else 7, [some (.ref 0), some (.int x1), some (.int x2), some (.int x3), none, none, none], [], 0, 0)) (M' := (I, J, sm_rf 41 d)) rfl trivial (sm_W.iteD h (fun hc h => ?_) (fun hc h => ?_))
    · refine sm_W.run (sm_C_mono D) 1 (G := True) (fr' := (68, [some (.ref 0), some (.int x1), some (.int x2), some (.int x3), none, none, none], [.int (1 : Int32)], 0, 0)) (M' := (I, J, sm_rf 41 d)) rfl trivial ?_
      cases h
      exact sm_W.ret (sm_C_mono D) rfl hQ
    · refine sm_W.run (sm_C_mono D) 3 (G := True) (fr' := (if decide ((8 : Int32) ≤ x3) = true then 67 else 10, [some (.ref 0), some (.int x1), some (.int x2), some (.int x3), none, none, none], [], 0, 0)) (M' := (I, J, sm_rf 41 d)) rfl trivial (sm_W.iteD h (fun hc h => ?_) (fun hc h => ?_))
      · refine sm_W.run (sm_C_mono D) 1 (G := True) (fr' := (68, [some (.ref 0), some (.int x1), some (.int x2), some (.int x3), none, none, none], [.int (1 : Int32)], 0, 0)) (M' := (I, J, sm_rf 41 d)) rfl trivial ?_
        cases h
        exact sm_W.ret (sm_C_mono D) rfl hQ
      · obtain ⟨g1, h⟩ := sd_gu_go h
        refine sm_W.runL (sm_C_mono D) 6 (G := sm_in x3 8 = true ∧ True) (e := (I 11 (Int32.toNatClampNeg x3))) (fr' := fun a2 => (16, [some (.ref 0), some (.int x1), some (.int x2), some (.int x3), some (.int a2), none, none], [], 0, 0)) (M' := fun _ => (I, J, sm_rf 41 d)) rfl h ⟨g1, trivial⟩ (fun a2 h => ?_)
        refine sm_W.run (sm_C_mono D) 2 (G := True) (fr' := (if decide (a2 < 0) = true then 21 else 18, [some (.ref 0), some (.int x1), some (.int x2), some (.int x3), some (.int a2), none, none], [], 0, 0)) (M' := (I, J, sm_rf 41 d)) rfl trivial (sm_W.iteD h (fun hc h => ?_) (fun hc h => ?_))
        · refine sm_W.run (sm_C_mono D) 1 (G := True) (fr' := (22, [some (.ref 0), some (.int x1), some (.int x2), some (.int x3), some (.int a2), none, none], [.int (0 : Int32)], 0, 0)) (M' := (I, J, sm_rf 41 d)) rfl trivial ?_
          cases h
          exact sm_W.ret (sm_C_mono D) rfl hQ
        · refine sm_W.run (sm_C_mono D) 3 (G := True) (fr' := (if decide (a2 < (20 : Int32)) = true then 23 else 21, [some (.ref 0), some (.int x1), some (.int x2), some (.int x3), some (.int a2), none, none], [], 0, 0)) (M' := (I, J, sm_rf 41 d)) rfl trivial (sm_W.iteD h (fun hc h => ?_) (fun hc h => ?_))
          · obtain ⟨g3, h⟩ := sd_gu_go h
            refine sm_W.run (sm_C_mono D) 13 (G := sm_in a2 20 = true ∧ True) (fr' := (if decide ((((I (41 + 11) (Int32.toNatClampNeg a2)) &&& (I 9 0)) &&& x1) = 0) = true then 38 else 36, [some (.ref 0), some (.int x1), some (.int x2), some (.int x3), some (.int a2), none, none], [], 0, 0)) (M' := (I, J, sm_rf 41 d)) rfl ⟨g3, trivial⟩ (sm_W.iteD h (fun hc h => ?_) (fun hc h => ?_))
            · refine sm_W.run (sm_C_mono D) 1 (G := True) (fr' := (39, [some (.ref 0), some (.int x1), some (.int x2), some (.int x3), some (.int a2), none, none], [.int (0 : Int32)], 0, 0)) (M' := (I, J, sm_rf 41 d)) rfl trivial ?_
              exact sm_W.forget (L' := [some (.ref 0), some (.int x1), some (.int x2), some (.int x3), none, none, none]) ⟨rfl, ⟨rfl, ⟨rfl, ⟨rfl, trivial⟩⟩⟩⟩ (G_VM_allHeardIsSo_39 hD (by decide) h hQ hk2)
            · refine sm_W.run (sm_C_mono D) 2 (G := True) (fr' := (39, [some (.ref 0), some (.int x1), some (.int x2), some (.int x3), some (.int a2), none, none], [.int (1 : Int32)], 0, 0)) (M' := (I, J, sm_rf 41 d)) rfl trivial ?_
              exact sm_W.forget (L' := [some (.ref 0), some (.int x1), some (.int x2), some (.int x3), none, none, none]) ⟨rfl, ⟨rfl, ⟨rfl, ⟨rfl, trivial⟩⟩⟩⟩ (G_VM_allHeardIsSo_39 hD (by decide) h hQ hk2)
          · refine sm_W.run (sm_C_mono D) 1 (G := True) (fr' := (22, [some (.ref 0), some (.int x1), some (.int x2), some (.int x3), some (.int a2), none, none], [.int (0 : Int32)], 0, 0)) (M' := (I, J, sm_rf 41 d)) rfl trivial ?_
            cases h
            exact sm_W.ret (sm_C_mono D) rfl hQ
theorem G_VM_allHeardIsSo_2 {X : Nat × (Nat → Int32)} {t d D : Nat} {Q : sm_Q} {I : sm_MI} {J : sm_MJ} {rz : Int32}
    (hD : 0 ≤ D) (ht : t = 21 ∨ t = 41) (hQ : Q (.inl (some (.int rz))) (I, J, sm_rf t d))  : ∀ (n : Nat) (x1 : Int32) (x2 : Int32) (x3 : Int32), F_VM_allHeardIsSo_2 t I n x1 x2 x3 = some (rz) → sm_W sm_sh X (sm_C sm_sh X sm_P D) me_139 Q (2, [some (.ref 0), some (.int x1), some (.int x2), some (.int x3), none, none, none], [], 0, 0) (I, J, sm_rf t d) := by
  intro n
  induction n with
  | zero => intro x1 x2 x3 h; cases (show (none : Option (Int32)) = some (rz) from h)
  | succ n ih => intro x1 x2 x3 h; exact G_VM_allHeardIsSo_2B hD ht (show F_VM_allHeardIsSo_2B t (F_VM_allHeardIsSo_2 t I n) x1 x2 x3 I = some (rz) from h) hQ  ih
theorem G_VM_allHeardIsSo {X : Nat × (Nat → Int32)} {t d D : Nat} {Q : sm_Q} {I : sm_MI} {J : sm_MJ} {x1 : Int32} {x2 : Int32} {rz : Int32}
    (hD : 0 ≤ D) (ht : t = 21 ∨ t = 41) (h : F_VM_allHeardIsSo t x1 x2 I = some (rz)) (hQ : Q (.inl (some (.int rz))) (I, J, sm_rf t d))  : sm_W sm_sh X (sm_C sm_sh X sm_P D) me_139 Q (0, [some (.ref 0), some (.int x1), some (.int x2), none, none, none, none], [], 0, 0) (I, J, sm_rf t d) := by
  unfold F_VM_allHeardIsSo at h
  rcases ht with rfl | rfl
  · skip
    refine sm_W.run (sm_C_mono D) 2 (G := True) (fr' := (2, [some (.ref 0), some (.int x1), some (.int x2), some (.int (0 : Int32)), none, none, none], [], 0, 0)) (M' := (I, J, sm_rf 21 d)) rfl trivial ?_
    exact (G_VM_allHeardIsSo_2 hD (by decide) hQ sd_fu _ _ _ h)
  · skip
    refine sm_W.run (sm_C_mono D) 2 (G := True) (fr' := (2, [some (.ref 0), some (.int x1), some (.int x2), some (.int (0 : Int32)), none, none, none], [], 0, 0)) (M' := (I, J, sm_rf 41 d)) rfl trivial ?_
    exact (G_VM_allHeardIsSo_2 hD (by decide) hQ sd_fu _ _ _ h)
theorem T_VM_allHeardIsSo {X : Nat × (Nat → Int32)} {t d D : Nat} {Q : sm_Q} {I : sm_MI} {J : sm_MJ} {x1 : Int32} {x2 : Int32} {rz : Int32}
    (hD : 1 ≤ D) (ht : t = 21 ∨ t = 41) (h : F_VM_allHeardIsSo t x1 x2 I = some (rz)) (hQ : Q (.inl (some (.int rz))) (I, J, sm_rf t d)) : sm_C sm_sh X sm_P D 139 [.ref 0, .int x1, .int x2] (I, J, sm_rf t d) Q := by
  cases D with
  | zero => omega
  | succ D => exact sm_C.of (me := me_139) (L := [some (.ref 0), some (.int x1), some (.int x2), none, none, none, none]) rfl rfl rfl (sm_W.forget (L' := [some (.ref 0), some (.int x1), some (.int x2), none, none, none, none]) ⟨rfl, ⟨rfl, ⟨rfl, trivial⟩⟩⟩ (G_VM_allHeardIsSo (by omega) ht h hQ))
-- 138 VM_flat
noncomputable def F_VM_flat_33B (t : Nat) (k26 : Int32 → Int32 → Int32 → Option ((Int32 ⊕ Nat))) (k33 : Int32 → Int32 → Int32 → Int32 → Option ((Int32 ⊕ Nat))) (x1 : Int32) (x2 : Int32) (x3 : Int32) (x4 : Int32) (I : sm_MI) : Option ((Int32 ⊕ Nat)) :=
  if (5 : Int32) < x4 then
    k26 x1 x2 (x3 + (1 : Int32))
  else
    sd_q1 (F_VM_allHeardIsSo t ((1 : Int32) <<< (x3 &&& 31)) x4 I) fun r1 =>
    if r1 = 0 then
      k33 x1 x2 x3 (x4 + (1 : Int32))
    else
      if ¬ x1 = (1 : Int32) then
        k33 x1 (x2 + (1 : Int32)) x3 (x4 + (1 : Int32))
      else
        some (.inl (((10 : Int32) * x3) + x4))
noncomputable def F_VM_flat_33 (t : Nat) (k26 : Int32 → Int32 → Int32 → Option ((Int32 ⊕ Nat))) (I : sm_MI) (n : Nat) : Int32 → Int32 → Int32 → Int32 → Option ((Int32 ⊕ Nat)) :=
  sd_fix (fun k x1 x2 x3 x4 => F_VM_flat_33B t k26 k x1 x2 x3 x4 I) (fun _ _ _ _ => none) n
noncomputable def F_VM_flat_26B (t : Nat) (k26 : Int32 → Int32 → Int32 → Option ((Int32 ⊕ Nat))) (x1 : Int32) (x2 : Int32) (x3 : Int32) (I : sm_MI) : Option ((Int32 ⊕ Nat)) :=
  if (I t 0) ≤ x3 then
    if ¬ x1 = 0 then
      some (.inl (-1 : Int32))
    else
      some (.inl x2)
  else
    F_VM_flat_33 t k26 I sd_fu x1 x2 x3 (1 : Int32)
noncomputable def F_VM_flat_26 (t : Nat) (I : sm_MI) (n : Nat) : Int32 → Int32 → Int32 → Option ((Int32 ⊕ Nat)) :=
  sd_fix (fun k x1 x2 x3 => F_VM_flat_26B t k x1 x2 x3 I) (fun _ _ _ => none) n
noncomputable def F_VM_flat (t : Nat) (x1 : Int32) (I : sm_MI) : Option ((Int32 ⊕ Nat)) :=
  if x1 < 0 then
    some (.inr 1)
  else
    if x1 ≤ (2 : Int32) then
      if ¬ x1 = (2 : Int32) then
        F_VM_flat_26 t I sd_fu x1 (0 : Int32) (0 : Int32)
      else
        sd_q1 (F_VM_allHeardIsSo t (0 : Int32) (0 : Int32) I) fun r1 =>
        if r1 = 0 then
          some (.inl (0 : Int32))
        else
          some (.inl (1 : Int32))
    else
      some (.inr 1)
theorem G_VM_flat_33B {X : Nat × (Nat → Int32)} {t d D : Nat} {Q : sm_Q} {I : sm_MI} {J : sm_MJ} {k26 : Int32 → Int32 → Int32 → Option ((Int32 ⊕ Nat))} {k33 : Int32 → Int32 → Int32 → Int32 → Option ((Int32 ⊕ Nat))} {x1 : Int32} {x2 : Int32} {x3 : Int32} {x4 : Int32} {rz : (Int32 ⊕ Nat)}
    (hD : 1 ≤ D) (ht : t = 21 ∨ t = 41) (h : F_VM_flat_33B t k26 k33 x1 x2 x3 x4 I = some (rz)) (hQ1 : ∀ v, rz = .inl v → Q (.inl (some (.int v))) (I, J, sm_rf t d)) (hQ2 : ∀ E, rz = .inr E → Q (.inr E) (I, J, sm_rf t d)) (hk26 : ∀ (x1 : Int32) (x2 : Int32) (x3 : Int32), k26 x1 x2 x3 = some (rz) → sm_W sm_sh X (sm_C sm_sh X sm_P D) me_138 Q (26, [some (.ref 0), some (.int x1), some (.int x2), some (.int x3), none], [], 0, 0) (I, J, sm_rf t d)) (hk33 : ∀ (x1 : Int32) (x2 : Int32) (x3 : Int32) (x4 : Int32), k33 x1 x2 x3 x4 = some (rz) → sm_W sm_sh X (sm_C sm_sh X sm_P D) me_138 Q (33, [some (.ref 0), some (.int x1), some (.int x2), some (.int x3), some (.int x4)], [], 0, 0) (I, J, sm_rf t d)) : sm_W sm_sh X (sm_C sm_sh X sm_P D) me_138 Q (33, [some (.ref 0), some (.int x1), some (.int x2), some (.int x3), some (.int x4)], [], 0, 0) (I, J, sm_rf t d) := by
  unfold F_VM_flat_33B at h
  rcases ht with rfl | rfl
  · skip
    refine sm_W.run (sm_C_mono D) 3 (G := True) (fr' := (if decide ((5 : Int32) < x4) = true then 55 else 36, [some (.ref 0), some (.int x1), some (.int x2), some (.int x3), some (.int x4)], [], 0, 0)) (M' := (I, J, sm_rf 21 d)) rfl trivial (sm_W.iteD h (fun hc h => ?_) (fun hc h => ?_))
    · refine sm_W.run (sm_C_mono D) 2 (G := True) (fr' := (26, [some (.ref 0), some (.int x1), some (.int x2), some (.int (x3 + (1 : Int32))), some (.int x4)], [], 0, 0)) (M' := (I, J, sm_rf 21 d)) rfl trivial ?_
      exact sm_W.forget (L' := [some (.ref 0), some (.int x1), some (.int x2), some (.int (x3 + (1 : Int32))), none]) ⟨rfl, ⟨rfl, ⟨rfl, ⟨rfl, trivial⟩⟩⟩⟩ (hk26 _ _ _ h)
    · refine sm_W.run (sm_C_mono D) 5 (G := True) (fr' := (41, [some (.ref 0), some (.int x1), some (.int x2), some (.int x3), some (.int x4)], [.int x4, .int ((1 : Int32) <<< (x3 &&& 31)), .ref 0], 0, 0)) (M' := (I, J, sm_rf 21 d)) rfl trivial ?_
      obtain ⟨r1, hc, h⟩ := sd_q1_go h
      refine sm_W.cal (sm_C_mono D) (y := 139) (as := [.ref 0, .int ((1 : Int32) <<< (x3 &&& 31)), .int x4]) (fr' := (42, [some (.ref 0), some (.int x1), some (.int x2), some (.int x3), some (.int x4)], [], 0, 0)) rfl (T_VM_allHeardIsSo (by omega) (by decide) hc ?_)
      show sm_W sm_sh X (sm_C sm_sh X sm_P D) me_138 Q (42, [some (.ref 0), some (.int x1), some (.int x2), some (.int x3), some (.int x4)], [.int r1], 0, 0) (I, J, sm_rf 21 d)
      refine sm_W.run (sm_C_mono D) 1 (G := True) (fr' := (if decide (r1 = 0) = true then 53 else 43, [some (.ref 0), some (.int x1), some (.int x2), some (.int x3), some (.int x4)], [], 0, 0)) (M' := (I, J, sm_rf 21 d)) rfl trivial (sm_W.iteD h (fun hc h => ?_) (fun hc h => ?_))
      · refine sm_W.run (sm_C_mono D) 2 (G := True) (fr' := (33, [some (.ref 0), some (.int x1), some (.int x2), some (.int x3), some (.int (x4 + (1 : Int32)))], [], 0, 0)) (M' := (I, J, sm_rf 21 d)) rfl trivial ?_
        exact (hk33 _ _ _ _ h)
      · refine sm_W.run (sm_C_mono D) 3 (G := True) (fr' := (if decide (¬ x1 = (1 : Int32)) = true then 52 else 46, [some (.ref 0), some (.int x1), some (.int x2), some (.int x3), some (.int x4)], [], 0, 0)) (M' := (I, J, sm_rf 21 d)) rfl trivial (sm_W.iteD h (fun hc h => ?_) (fun hc h => ?_))
        · refine sm_W.run (sm_C_mono D) 3 (G := True) (fr' := (33, [some (.ref 0), some (.int x1), some (.int (x2 + (1 : Int32))), some (.int x3), some (.int (x4 + (1 : Int32)))], [], 0, 0)) (M' := (I, J, sm_rf 21 d)) rfl trivial ?_
          exact (hk33 _ _ _ _ h)
        · refine sm_W.run (sm_C_mono D) 5 (G := True) (fr' := (51, [some (.ref 0), some (.int x1), some (.int x2), some (.int x3), some (.int x4)], [.int (((10 : Int32) * x3) + x4)], 0, 0)) (M' := (I, J, sm_rf 21 d)) rfl trivial ?_
          cases h
          exact sm_W.ret (sm_C_mono D) rfl (hQ1 _ rfl)
  · skip
    refine sm_W.run (sm_C_mono D) 3 (G := True) (fr' := (if decide ((5 : Int32) < x4) = true then 55 else 36, [some (.ref 0), some (.int x1), some (.int x2), some (.int x3), some (.int x4)], [], 0, 0)) (M' := (I, J, sm_rf 41 d)) rfl trivial (sm_W.iteD h (fun hc h => ?_) (fun hc h => ?_))
    · refine sm_W.run (sm_C_mono D) 2 (G := True) (fr' := (26, [some (.ref 0), some (.int x1), some (.int x2), some (.int (x3 + (1 : Int32))), some (.int x4)], [], 0, 0)) (M' := (I, J, sm_rf 41 d)) rfl trivial ?_
      exact sm_W.forget (L' := [some (.ref 0), some (.int x1), some (.int x2), some (.int (x3 + (1 : Int32))), none]) ⟨rfl, ⟨rfl, ⟨rfl, ⟨rfl, trivial⟩⟩⟩⟩ (hk26 _ _ _ h)
    · refine sm_W.run (sm_C_mono D) 5 (G := True) (fr' := (41, [some (.ref 0), some (.int x1), some (.int x2), some (.int x3), some (.int x4)], [.int x4, .int ((1 : Int32) <<< (x3 &&& 31)), .ref 0], 0, 0)) (M' := (I, J, sm_rf 41 d)) rfl trivial ?_
      obtain ⟨r1, hc, h⟩ := sd_q1_go h
      refine sm_W.cal (sm_C_mono D) (y := 139) (as := [.ref 0, .int ((1 : Int32) <<< (x3 &&& 31)), .int x4]) (fr' := (42, [some (.ref 0), some (.int x1), some (.int x2), some (.int x3), some (.int x4)], [], 0, 0)) rfl (T_VM_allHeardIsSo (by omega) (by decide) hc ?_)
      show sm_W sm_sh X (sm_C sm_sh X sm_P D) me_138 Q (42, [some (.ref 0), some (.int x1), some (.int x2), some (.int x3), some (.int x4)], [.int r1], 0, 0) (I, J, sm_rf 41 d)
      refine sm_W.run (sm_C_mono D) 1 (G := True) (fr' := (if decide (r1 = 0) = true then 53 else 43, [some (.ref 0), some (.int x1), some (.int x2), some (.int x3), some (.int x4)], [], 0, 0)) (M' := (I, J, sm_rf 41 d)) rfl trivial (sm_W.iteD h (fun hc h => ?_) (fun hc h => ?_))
      · refine sm_W.run (sm_C_mono D) 2 (G := True) (fr' := (33, [some (.ref 0), some (.int x1), some (.int x2), some (.int x3), some (.int (x4 + (1 : Int32)))], [], 0, 0)) (M' := (I, J, sm_rf 41 d)) rfl trivial ?_
        exact (hk33 _ _ _ _ h)
      · refine sm_W.run (sm_C_mono D) 3 (G := True) (fr' := (if decide (¬ x1 = (1 : Int32)) = true then 52 else 46, [some (.ref 0), some (.int x1), some (.int x2), some (.int x3), some (.int x4)], [], 0, 0)) (M' := (I, J, sm_rf 41 d)) rfl trivial (sm_W.iteD h (fun hc h => ?_) (fun hc h => ?_))
        · refine sm_W.run (sm_C_mono D) 3 (G := True) (fr' := (33, [some (.ref 0), some (.int x1), some (.int (x2 + (1 : Int32))), some (.int x3), some (.int (x4 + (1 : Int32)))], [], 0, 0)) (M' := (I, J, sm_rf 41 d)) rfl trivial ?_
          exact (hk33 _ _ _ _ h)
        · refine sm_W.run (sm_C_mono D) 5 (G := True) (fr' := (51, [some (.ref 0), some (.int x1), some (.int x2), some (.int x3), some (.int x4)], [.int (((10 : Int32) * x3) + x4)], 0, 0)) (M' := (I, J, sm_rf 41 d)) rfl trivial ?_
          cases h
          exact sm_W.ret (sm_C_mono D) rfl (hQ1 _ rfl)
theorem G_VM_flat_33 {X : Nat × (Nat → Int32)} {t d D : Nat} {Q : sm_Q} {I : sm_MI} {J : sm_MJ} {k26 : Int32 → Int32 → Int32 → Option ((Int32 ⊕ Nat))} {rz : (Int32 ⊕ Nat)}
    (hD : 1 ≤ D) (ht : t = 21 ∨ t = 41) (hQ1 : ∀ v, rz = .inl v → Q (.inl (some (.int v))) (I, J, sm_rf t d)) (hQ2 : ∀ E, rz = .inr E → Q (.inr E) (I, J, sm_rf t d)) (hk26 : ∀ (x1 : Int32) (x2 : Int32) (x3 : Int32), k26 x1 x2 x3 = some (rz) → sm_W sm_sh X (sm_C sm_sh X sm_P D) me_138 Q (26, [some (.ref 0), some (.int x1), some (.int x2), some (.int x3), none], [], 0, 0) (I, J, sm_rf t d)) : ∀ (n : Nat) (x1 : Int32) (x2 : Int32) (x3 : Int32) (x4 : Int32), F_VM_flat_33 t k26 I n x1 x2 x3 x4 = some (rz) → sm_W sm_sh X (sm_C sm_sh X sm_P D) me_138 Q (33, [some (.ref 0), some (.int x1), some (.int x2), some (.int x3), some (.int x4)], [], 0, 0) (I, J, sm_rf t d) := by
  intro n
  induction n with
  | zero => intro x1 x2 x3 x4 h; cases (show (none : Option ((Int32 ⊕ Nat))) = some (rz) from h)
  | succ n ih => intro x1 x2 x3 x4 h; exact G_VM_flat_33B hD ht (show F_VM_flat_33B t k26 (F_VM_flat_33 t k26 I n) x1 x2 x3 x4 I = some (rz) from h) hQ1 hQ2 hk26 ih
theorem G_VM_flat_26B {X : Nat × (Nat → Int32)} {t d D : Nat} {Q : sm_Q} {I : sm_MI} {J : sm_MJ} {k26 : Int32 → Int32 → Int32 → Option ((Int32 ⊕ Nat))} {x1 : Int32} {x2 : Int32} {x3 : Int32} {rz : (Int32 ⊕ Nat)}
    (hD : 1 ≤ D) (ht : t = 21 ∨ t = 41) (h : F_VM_flat_26B t k26 x1 x2 x3 I = some (rz)) (hQ1 : ∀ v, rz = .inl v → Q (.inl (some (.int v))) (I, J, sm_rf t d)) (hQ2 : ∀ E, rz = .inr E → Q (.inr E) (I, J, sm_rf t d)) (hk26 : ∀ (x1 : Int32) (x2 : Int32) (x3 : Int32), k26 x1 x2 x3 = some (rz) → sm_W sm_sh X (sm_C sm_sh X sm_P D) me_138 Q (26, [some (.ref 0), some (.int x1), some (.int x2), some (.int x3), none], [], 0, 0) (I, J, sm_rf t d)) : sm_W sm_sh X (sm_C sm_sh X sm_P D) me_138 Q (26, [some (.ref 0), some (.int x1), some (.int x2), some (.int x3), none], [], 0, 0) (I, J, sm_rf t d) := by
  unfold F_VM_flat_26B at h
  rcases ht with rfl | rfl
  · skip
    refine sm_W.run (sm_C_mono D) 5 (G := True) (fr' := (if decide ((I 21 0) ≤ x3) = true then 57 else 31, [some (.ref 0), some (.int x1), some (.int x2), some (.int x3), none], [], 0, 0)) (M' := (I, J, sm_rf 21 d)) rfl trivial (sm_W.iteD h (fun hc h => ?_) (fun hc h => ?_))
    · refine sm_W.run (sm_C_mono D) 2 (G := True) (fr' := (if decide (¬ x1 = 0) = true then 61 else 59, [some (.ref 0), some (.int x1), some (.int x2), some (.int x3), none], [], 0, 0)) (M' := (I, J, sm_rf 21 d)) rfl trivial (sm_W.iteD h (fun hc h => ?_) (fun hc h => ?_))
      · refine sm_W.run (sm_C_mono D) 1 (G := True) (fr' := (62, [some (.ref 0), some (.int x1), some (.int x2), some (.int x3), none], [.int (-1 : Int32)], 0, 0)) (M' := (I, J, sm_rf 21 d)) rfl trivial ?_
        cases h
        exact sm_W.ret (sm_C_mono D) rfl (hQ1 _ rfl)
      · refine sm_W.run (sm_C_mono D) 2 (G := True) (fr' := (62, [some (.ref 0), some (.int x1), some (.int x2), some (.int x3), none], [.int x2], 0, 0)) (M' := (I, J, sm_rf 21 d)) rfl trivial ?_
        cases h
        exact sm_W.ret (sm_C_mono D) rfl (hQ1 _ rfl)
    · refine sm_W.run (sm_C_mono D) 2 (G := True) (fr' := (33, [some (.ref 0), some (.int x1), some (.int x2), some (.int x3), some (.int (1 : Int32))], [], 0, 0)) (M' := (I, J, sm_rf 21 d)) rfl trivial ?_
      exact (G_VM_flat_33 hD (by decide) hQ1 hQ2 hk26 sd_fu _ _ _ _ h)
  · skip
    refine sm_W.run (sm_C_mono D) 5 (G := True) (fr' := (if decide ((I 41 0) ≤ x3) = true then 57 else 31, [some (.ref 0), some (.int x1), some (.int x2), some (.int x3), none], [], 0, 0)) (M' := (I, J, sm_rf 41 d)) rfl trivial (sm_W.iteD h (fun hc h => ?_) (fun hc h => ?_))
    · refine sm_W.run (sm_C_mono D) 2 (G := True) (fr' := (if decide (¬ x1 = 0) = true then 61 else 59, [some (.ref 0), some (.int x1), some (.int x2), some (.int x3), none], [], 0, 0)) (M' := (I, J, sm_rf 41 d)) rfl trivial (sm_W.iteD h (fun hc h => ?_) (fun hc h => ?_))
      · refine sm_W.run (sm_C_mono D) 1 (G := True) (fr' := (62, [some (.ref 0), some (.int x1), some (.int x2), some (.int x3), none], [.int (-1 : Int32)], 0, 0)) (M' := (I, J, sm_rf 41 d)) rfl trivial ?_
        cases h
        exact sm_W.ret (sm_C_mono D) rfl (hQ1 _ rfl)
      · refine sm_W.run (sm_C_mono D) 2 (G := True) (fr' := (62, [some (.ref 0), some (.int x1), some (.int x2), some (.int x3), none], [.int x2], 0, 0)) (M' := (I, J, sm_rf 41 d)) rfl trivial ?_
        cases h
        exact sm_W.ret (sm_C_mono D) rfl (hQ1 _ rfl)
    · refine sm_W.run (sm_C_mono D) 2 (G := True) (fr' := (33, [some (.ref 0), some (.int x1), some (.int x2), some (.int x3), some (.int (1 : Int32))], [], 0, 0)) (M' := (I, J, sm_rf 41 d)) rfl trivial ?_
      exact (G_VM_flat_33 hD (by decide) hQ1 hQ2 hk26 sd_fu _ _ _ _ h)
theorem G_VM_flat_26 {X : Nat × (Nat → Int32)} {t d D : Nat} {Q : sm_Q} {I : sm_MI} {J : sm_MJ} {rz : (Int32 ⊕ Nat)}
    (hD : 1 ≤ D) (ht : t = 21 ∨ t = 41) (hQ1 : ∀ v, rz = .inl v → Q (.inl (some (.int v))) (I, J, sm_rf t d)) (hQ2 : ∀ E, rz = .inr E → Q (.inr E) (I, J, sm_rf t d))  : ∀ (n : Nat) (x1 : Int32) (x2 : Int32) (x3 : Int32), F_VM_flat_26 t I n x1 x2 x3 = some (rz) → sm_W sm_sh X (sm_C sm_sh X sm_P D) me_138 Q (26, [some (.ref 0), some (.int x1), some (.int x2), some (.int x3), none], [], 0, 0) (I, J, sm_rf t d) := by
  intro n
  induction n with
  | zero => intro x1 x2 x3 h; cases (show (none : Option ((Int32 ⊕ Nat))) = some (rz) from h)
  | succ n ih => intro x1 x2 x3 h; exact G_VM_flat_26B hD ht (show F_VM_flat_26B t (F_VM_flat_26 t I n) x1 x2 x3 I = some (rz) from h) hQ1 hQ2  ih
theorem G_VM_flat {X : Nat × (Nat → Int32)} {t d D : Nat} {Q : sm_Q} {I : sm_MI} {J : sm_MJ} {x1 : Int32} {rz : (Int32 ⊕ Nat)}
    (hD : 1 ≤ D) (ht : t = 21 ∨ t = 41) (h : F_VM_flat t x1 I = some (rz)) (hQ1 : ∀ v, rz = .inl v → Q (.inl (some (.int v))) (I, J, sm_rf t d)) (hQ2 : ∀ E, rz = .inr E → Q (.inr E) (I, J, sm_rf t d))  : sm_W sm_sh X (sm_C sm_sh X sm_P D) me_138 Q (0, [some (.ref 0), some (.int x1), none, none, none], [], 0, 0) (I, J, sm_rf t d) := by
  unfold F_VM_flat at h
  rcases ht with rfl | rfl
  · skip
    refine sm_W.run (sm_C_mono D) 2 (G := True) (fr' := (if decide (x1 < 0) = true then 5 else 2, [some (.ref 0), some (.int x1), none, none, none], [], 0, 0)) (M' := (I, J, sm_rf 21 d)) rfl trivial (sm_W.iteD h (fun hc h => ?_) (fun hc h => ?_))
    · cases h
      exact sm_W.thr (sm_C_mono D) rfl (hQ2 _ rfl)
    · refine sm_W.run (sm_C_mono D) 3 (G := True) (fr' := (if decide (x1 ≤ (2 : Int32)) = true then 10 else 5, [some (.ref 0), some (.int x1), none, none, none], [], 0, 0)) (M' := (I, J, sm_rf 21 d)) rfl trivial (sm_W.iteD h (fun hc h => ?_) (fun hc h => ?_))
      · refine sm_W.run (sm_C_mono D) 3 (G := True) (fr' := (if decide (¬ x1 = (2 : Int32)) = true then 22 else 13, [some (.ref 0), some (.int x1), none, none, none], [], 0, 0)) (M' := (I, J, sm_rf 21 d)) rfl trivial (sm_W.iteD h (fun hc h => ?_) (fun hc h => ?_))
        · refine sm_W.run (sm_C_mono D) 4 (G := True) (fr' := (26, [some (.ref 0), some (.int x1), some (.int (0 : Int32)), some (.int (0 : Int32)), none], [], 0, 0)) (M' := (I, J, sm_rf 21 d)) rfl trivial ?_
          exact (G_VM_flat_26 hD (by decide) hQ1 hQ2 sd_fu _ _ _ h)
        · refine sm_W.run (sm_C_mono D) 3 (G := True) (fr' := (16, [some (.ref 0), some (.int x1), none, none, none], [.int (0 : Int32), .int (0 : Int32), .ref 0], 0, 0)) (M' := (I, J, sm_rf 21 d)) rfl trivial ?_
          obtain ⟨r1, hc, h⟩ := sd_q1_go h
          refine sm_W.cal (sm_C_mono D) (y := 139) (as := [.ref 0, .int (0 : Int32), .int (0 : Int32)]) (fr' := (17, [some (.ref 0), some (.int x1), none, none, none], [], 0, 0)) rfl (T_VM_allHeardIsSo (by omega) (by decide) hc ?_)
          show sm_W sm_sh X (sm_C sm_sh X sm_P D) me_138 Q (17, [some (.ref 0), some (.int x1), none, none, none], [.int r1], 0, 0) (I, J, sm_rf 21 d)
          refine sm_W.run (sm_C_mono D) 1 (G := True) (fr' := (if decide (r1 = 0) = true then 20 else 18, [some (.ref 0), some (.int x1), none, none, none], [], 0, 0)) (M' := (I, J, sm_rf 21 d)) rfl trivial (sm_W.iteD h (fun hc h => ?_) (fun hc h => ?_))
          · refine sm_W.run (sm_C_mono D) 1 (G := True) (fr' := (21, [some (.ref 0), some (.int x1), none, none, none], [.int (0 : Int32)], 0, 0)) (M' := (I, J, sm_rf 21 d)) rfl trivial ?_
            cases h
            exact sm_W.ret (sm_C_mono D) rfl (hQ1 _ rfl)
          · refine sm_W.run (sm_C_mono D) 2 (G := True) (fr' := (21, [some (.ref 0), some (.int x1), none, none, none], [.int (1 : Int32)], 0, 0)) (M' := (I, J, sm_rf 21 d)) rfl trivial ?_
            cases h
            exact sm_W.ret (sm_C_mono D) rfl (hQ1 _ rfl)
      · cases h
        exact sm_W.thr (sm_C_mono D) rfl (hQ2 _ rfl)
  · skip
    refine sm_W.run (sm_C_mono D) 2 (G := True) (fr' := (if decide (x1 < 0) = true then 5 else 2, [some (.ref 0), some (.int x1), none, none, none], [], 0, 0)) (M' := (I, J, sm_rf 41 d)) rfl trivial (sm_W.iteD h (fun hc h => ?_) (fun hc h => ?_))
    · cases h
      exact sm_W.thr (sm_C_mono D) rfl (hQ2 _ rfl)
    · refine sm_W.run (sm_C_mono D) 3 (G := True) (fr' := (if decide (x1 ≤ (2 : Int32)) = true then 10 else 5, [some (.ref 0), some (.int x1), none, none, none], [], 0, 0)) (M' := (I, J, sm_rf 41 d)) rfl trivial (sm_W.iteD h (fun hc h => ?_) (fun hc h => ?_))
      · refine sm_W.run (sm_C_mono D) 3 (G := True) (fr' := (if decide (¬ x1 = (2 : Int32)) = true then 22 else 13, [some (.ref 0), some (.int x1), none, none, none], [], 0, 0)) (M' := (I, J, sm_rf 41 d)) rfl trivial (sm_W.iteD h (fun hc h => ?_) (fun hc h => ?_))
        · refine sm_W.run (sm_C_mono D) 4 (G := True) (fr' := (26, [some (.ref 0), some (.int x1), some (.int (0 : Int32)), some (.int (0 : Int32)), none], [], 0, 0)) (M' := (I, J, sm_rf 41 d)) rfl trivial ?_
          exact (G_VM_flat_26 hD (by decide) hQ1 hQ2 sd_fu _ _ _ h)
        · refine sm_W.run (sm_C_mono D) 3 (G := True) (fr' := (16, [some (.ref 0), some (.int x1), none, none, none], [.int (0 : Int32), .int (0 : Int32), .ref 0], 0, 0)) (M' := (I, J, sm_rf 41 d)) rfl trivial ?_
          obtain ⟨r1, hc, h⟩ := sd_q1_go h
          refine sm_W.cal (sm_C_mono D) (y := 139) (as := [.ref 0, .int (0 : Int32), .int (0 : Int32)]) (fr' := (17, [some (.ref 0), some (.int x1), none, none, none], [], 0, 0)) rfl (T_VM_allHeardIsSo (by omega) (by decide) hc ?_)
          show sm_W sm_sh X (sm_C sm_sh X sm_P D) me_138 Q (17, [some (.ref 0), some (.int x1), none, none, none], [.int r1], 0, 0) (I, J, sm_rf 41 d)
          refine sm_W.run (sm_C_mono D) 1 (G := True) (fr' := (if decide (r1 = 0) = true then 20 else 18, [some (.ref 0), some (.int x1), none, none, none], [], 0, 0)) (M' := (I, J, sm_rf 41 d)) rfl trivial (sm_W.iteD h (fun hc h => ?_) (fun hc h => ?_))
          · refine sm_W.run (sm_C_mono D) 1 (G := True) (fr' := (21, [some (.ref 0), some (.int x1), none, none, none], [.int (0 : Int32)], 0, 0)) (M' := (I, J, sm_rf 41 d)) rfl trivial ?_
            cases h
            exact sm_W.ret (sm_C_mono D) rfl (hQ1 _ rfl)
          · refine sm_W.run (sm_C_mono D) 2 (G := True) (fr' := (21, [some (.ref 0), some (.int x1), none, none, none], [.int (1 : Int32)], 0, 0)) (M' := (I, J, sm_rf 41 d)) rfl trivial ?_
            cases h
            exact sm_W.ret (sm_C_mono D) rfl (hQ1 _ rfl)
      · cases h
        exact sm_W.thr (sm_C_mono D) rfl (hQ2 _ rfl)
theorem T_VM_flat {X : Nat × (Nat → Int32)} {t d D : Nat} {Q : sm_Q} {I : sm_MI} {J : sm_MJ} {x1 : Int32} {rz : (Int32 ⊕ Nat)}
    (hD : 2 ≤ D) (ht : t = 21 ∨ t = 41) (h : F_VM_flat t x1 I = some (rz)) (hQ1 : ∀ v, rz = .inl v → Q (.inl (some (.int v))) (I, J, sm_rf t d)) (hQ2 : ∀ E, rz = .inr E → Q (.inr E) (I, J, sm_rf t d)) : sm_C sm_sh X sm_P D 138 [.ref 0, .int x1] (I, J, sm_rf t d) Q := by
  cases D with
  | zero => omega
  | succ D => exact sm_C.of (me := me_138) (L := [some (.ref 0), some (.int x1), none, none, none]) rfl rfl rfl (sm_W.forget (L' := [some (.ref 0), some (.int x1), none, none, none]) ⟨rfl, ⟨rfl, trivial⟩⟩ (G_VM_flat (by omega) ht h hQ1 hQ2))
-- 140 VM_forget
noncomputable def F_VM_forget (I : sm_MI) : Option (sm_MI) :=
  sd_lt (sd_up I 8 6 (0 : Int32)) fun I1 =>
  some (I1)
theorem G_VM_forget {X : Nat × (Nat → Int32)} {t d D : Nat} {Q : sm_Q} {I : sm_MI} {J : sm_MJ} {Iz : sm_MI}
    (hD : 0 ≤ D) (h : F_VM_forget I = some (Iz)) (hQ : Q (.inl none) (Iz, J, sm_rf t d))  : sm_W sm_sh X (sm_C sm_sh X sm_P D) me_140 Q (0, [some (.ref 0)], [], 0, 0) (I, J, sm_rf t d) := by
  unfold F_VM_forget at h
  refine sm_W.runL (sm_C_mono D) 4 (G := True) (e := (sd_up I 8 6 (0 : Int32))) (fr' := fun _ => (4, [some (.ref 0)], [], 0, 0)) (M' := fun I1 => (I1, J, sm_rf t d)) rfl h trivial (fun I1 h => ?_)
  cases h
  exact sm_W.ret (sm_C_mono D) rfl hQ
theorem T_VM_forget {X : Nat × (Nat → Int32)} {t d D : Nat} {Q : sm_Q} {I : sm_MI} {J : sm_MJ} {Iz : sm_MI}
    (hD : 1 ≤ D) (h : F_VM_forget I = some (Iz)) (hQ : Q (.inl none) (Iz, J, sm_rf t d)) : sm_C sm_sh X sm_P D 140 [.ref 0] (I, J, sm_rf t d) Q := by
  cases D with
  | zero => omega
  | succ D => exact sm_C.of (me := me_140) (L := [some (.ref 0)]) rfl rfl rfl (sm_W.forget (L' := [some (.ref 0)]) ⟨rfl, trivial⟩ (G_VM_forget (by omega) h hQ))
-- 155 VM_checkWarring
noncomputable def F_VM_checkWarring (x1 : Int32) : Option ((Unit ⊕ Nat)) :=
  if x1 < 0 then
    some (.inr 1)
  else
    if x1 < (2 : Int32) then
      some (.inl ())
    else
      some (.inr 1)
theorem G_VM_checkWarring {X : Nat × (Nat → Int32)} {t d D : Nat} {Q : sm_Q} {I : sm_MI} {J : sm_MJ} {x1 : Int32} {rz : (Unit ⊕ Nat)}
    (hD : 0 ≤ D) (h : F_VM_checkWarring x1 = some (rz)) (hQ1 : ∀ v, rz = .inl v → Q (.inl none) (I, J, sm_rf t d)) (hQ2 : ∀ E, rz = .inr E → Q (.inr E) (I, J, sm_rf t d))  : sm_W sm_sh X (sm_C sm_sh X sm_P D) me_155 Q (0, [none, some (.int x1)], [], 0, 0) (I, J, sm_rf t d) := by
  unfold F_VM_checkWarring at h
  refine sm_W.run (sm_C_mono D) 2 (G := True) (fr' := (if decide (x1 < 0) = true then 5 else 2, [none, some (.int x1)], [], 0, 0)) (M' := (I, J, sm_rf t d)) rfl trivial (sm_W.iteD h (fun hc h => ?_) (fun hc h => ?_))
  · cases h
    exact sm_W.thr (sm_C_mono D) rfl (hQ2 _ rfl)
  · refine sm_W.run (sm_C_mono D) 3 (G := True) (fr' := (if decide (x1 < (2 : Int32)) = true then 10 else 5, [none, some (.int x1)], [], 0, 0)) (M' := (I, J, sm_rf t d)) rfl trivial (sm_W.iteD h (fun hc h => ?_) (fun hc h => ?_))
    · cases h
      exact sm_W.ret (sm_C_mono D) rfl (hQ1 _ rfl)
    · cases h
      exact sm_W.thr (sm_C_mono D) rfl (hQ2 _ rfl)
theorem T_VM_checkWarring {X : Nat × (Nat → Int32)} {t d D : Nat} {Q : sm_Q} {I : sm_MI} {J : sm_MJ} {x1 : Int32} {rz : (Unit ⊕ Nat)}
    (hD : 1 ≤ D) (h : F_VM_checkWarring x1 = some (rz)) (hQ1 : ∀ v, rz = .inl v → Q (.inl none) (I, J, sm_rf t d)) (hQ2 : ∀ E, rz = .inr E → Q (.inr E) (I, J, sm_rf t d)) : sm_C sm_sh X sm_P D 155 [.ref 0, .int x1] (I, J, sm_rf t d) Q := by
  cases D with
  | zero => omega
  | succ D => exact sm_C.of (me := me_155) (L := [some (.ref 0), some (.int x1)]) rfl rfl rfl (sm_W.forget (L' := [none, some (.int x1)]) ⟨rfl, trivial⟩ (G_VM_checkWarring (by omega) h hQ1 hQ2))
-- 141 VM_holds
noncomputable def F_VM_holds (t : Nat) (x1 : Int32) (I : sm_MI) : Option ((Int32 ⊕ Nat) × sm_MI) :=
  sd_t1 (F_VM_checkWarring x1) (fun r1 =>
    sd_q2 (F_War_holdsFire t 9 x1 I) fun r2 I3 =>
    some (.inl (vp_nar .boolean r2), I3))
    (fun r1 => some (.inr r1, I))
theorem G_VM_holds {X : Nat × (Nat → Int32)} {t d D : Nat} {Q : sm_Q} {I : sm_MI} {J : sm_MJ} {x1 : Int32} {rz : (Int32 ⊕ Nat)} {Iz : sm_MI}
    (hD : 4 ≤ D) (ht : t = 21 ∨ t = 41) (h : F_VM_holds t x1 I = some (rz, Iz)) (hQ1 : ∀ v, rz = .inl v → Q (.inl (some (.int v))) (Iz, J, sm_rf t d)) (hQ2 : ∀ E, rz = .inr E → Q (.inr E) (Iz, J, sm_rf t d))  : sm_W sm_sh X (sm_C sm_sh X sm_P D) me_141 Q (0, [some (.ref 0), some (.int x1)], [], 0, 0) (I, J, sm_rf t d) := by
  unfold F_VM_holds at h
  rcases ht with rfl | rfl
  · skip
    refine sm_W.run (sm_C_mono D) 2 (G := True) (fr' := (2, [some (.ref 0), some (.int x1)], [.int x1, .ref 0], 0, 0)) (M' := (I, J, sm_rf 21 d)) rfl trivial ?_
    rcases sd_t1_go h with ⟨r1, hc, h⟩ | ⟨r1, hc, h⟩
    · refine sm_W.cal (sm_C_mono D) (y := 155) (as := [.ref 0, .int x1]) (fr' := (3, [some (.ref 0), some (.int x1)], [], 1, 6)) rfl (T_VM_checkWarring (by omega) hc (fun _ e => ?_) (fun _ e => by cases e))
      cases e
      show sm_W sm_sh X (sm_C sm_sh X sm_P D) me_141 Q (3, [some (.ref 0), some (.int x1)], [], 1, 6) (I, J, sm_rf 21 d)
      refine sm_W.run (sm_C_mono D) 6 (G := True) (fr' := (9, [some (.ref 0), some (.int x1)], [.int x1, .ref 9, .ref 21], 1, 6)) (M' := (I, J, sm_rf 21 d)) rfl trivial ?_
      obtain ⟨r2, I3, hc, h⟩ := sd_q2_go h
      refine sm_W.cal (sm_C_mono D) (y := 93) (as := [.ref 21, .ref 9, .int x1]) (fr' := (10, [some (.ref 0), some (.int x1)], [], 1, 6)) rfl (T_War_holdsFire (by omega) (by decide) hc ?_)
      show sm_W sm_sh X (sm_C sm_sh X sm_P D) me_141 Q (10, [some (.ref 0), some (.int x1)], [.int r2], 1, 6) (I3, J, sm_rf 21 d)
      cases h
      exact sm_W.ret (sm_C_mono D) rfl (hQ1 _ rfl)
    · refine sm_W.cal (sm_C_mono D) (y := 155) (as := [.ref 0, .int x1]) (fr' := (3, [some (.ref 0), some (.int x1)], [], 1, 6)) rfl (T_VM_checkWarring (by omega) hc (fun _ e => by cases e) (fun _ e => ?_))
      cases e
      cases h
      exact ⟨rfl, hQ2 _ rfl⟩
  · skip
    refine sm_W.run (sm_C_mono D) 2 (G := True) (fr' := (2, [some (.ref 0), some (.int x1)], [.int x1, .ref 0], 0, 0)) (M' := (I, J, sm_rf 41 d)) rfl trivial ?_
    rcases sd_t1_go h with ⟨r1, hc, h⟩ | ⟨r1, hc, h⟩
    · refine sm_W.cal (sm_C_mono D) (y := 155) (as := [.ref 0, .int x1]) (fr' := (3, [some (.ref 0), some (.int x1)], [], 1, 6)) rfl (T_VM_checkWarring (by omega) hc (fun _ e => ?_) (fun _ e => by cases e))
      cases e
      show sm_W sm_sh X (sm_C sm_sh X sm_P D) me_141 Q (3, [some (.ref 0), some (.int x1)], [], 1, 6) (I, J, sm_rf 41 d)
      refine sm_W.run (sm_C_mono D) 6 (G := True) (fr' := (9, [some (.ref 0), some (.int x1)], [.int x1, .ref 9, .ref 41], 1, 6)) (M' := (I, J, sm_rf 41 d)) rfl trivial ?_
      obtain ⟨r2, I3, hc, h⟩ := sd_q2_go h
      refine sm_W.cal (sm_C_mono D) (y := 93) (as := [.ref 41, .ref 9, .int x1]) (fr' := (10, [some (.ref 0), some (.int x1)], [], 1, 6)) rfl (T_War_holdsFire (by omega) (by decide) hc ?_)
      show sm_W sm_sh X (sm_C sm_sh X sm_P D) me_141 Q (10, [some (.ref 0), some (.int x1)], [.int r2], 1, 6) (I3, J, sm_rf 41 d)
      cases h
      exact sm_W.ret (sm_C_mono D) rfl (hQ1 _ rfl)
    · refine sm_W.cal (sm_C_mono D) (y := 155) (as := [.ref 0, .int x1]) (fr' := (3, [some (.ref 0), some (.int x1)], [], 1, 6)) rfl (T_VM_checkWarring (by omega) hc (fun _ e => by cases e) (fun _ e => ?_))
      cases e
      cases h
      exact ⟨rfl, hQ2 _ rfl⟩
theorem T_VM_holds {X : Nat × (Nat → Int32)} {t d D : Nat} {Q : sm_Q} {I : sm_MI} {J : sm_MJ} {x1 : Int32} {rz : (Int32 ⊕ Nat)} {Iz : sm_MI}
    (hD : 5 ≤ D) (ht : t = 21 ∨ t = 41) (h : F_VM_holds t x1 I = some (rz, Iz)) (hQ1 : ∀ v, rz = .inl v → Q (.inl (some (.int v))) (Iz, J, sm_rf t d)) (hQ2 : ∀ E, rz = .inr E → Q (.inr E) (Iz, J, sm_rf t d)) : sm_C sm_sh X sm_P D 141 [.ref 0, .int x1] (I, J, sm_rf t d) Q := by
  cases D with
  | zero => omega
  | succ D => exact sm_C.of (me := me_141) (L := [some (.ref 0), some (.int x1)]) rfl rfl rfl (sm_W.forget (L' := [some (.ref 0), some (.int x1)]) ⟨rfl, ⟨rfl, trivial⟩⟩ (G_VM_holds (by omega) ht h hQ1 hQ2))
