/-! ===== the small machine at valley and at the law's valley ===== -/
theorem rf_swap {t d : Nat} : va_up (va_up (sm_rf t d) 0 (va_up (sm_rf t d 0) 6 d)) 0 (va_up (va_up (sm_rf t d) 0 (va_up (sm_rf t d 0) 6 d) 0) 7 t) = sm_rf d t := by
  funext k j
  unfold va_up
  by_cases hk : k = 0
  · subst hk
    rw [if_pos rfl]
    by_cases h7 : j = 7
    · subst h7; rw [if_pos rfl]; rfl
    · rw [if_neg h7, if_pos rfl]
      by_cases h6 : j = 6
      · subst h6; rw [if_pos rfl]; rfl
      · rw [if_neg h6]; unfold sm_rf; split <;> first | rfl | (exfalso; omega) | skip
        all_goals (split <;> first | rfl | (exfalso; omega))
  · rw [if_neg hk, if_neg hk]
    unfold sm_rf; split <;> first | rfl | (exfalso; omega) | skip
    all_goals (split <;> first | rfl | (exfalso; omega))
noncomputable def swp (s : Bool) (t d : Nat) : Nat → Nat → Nat := if s then sm_rf d t else sm_rf t d
theorem G_VM_valley {X : Nat × (Nat → Int32)} {t d D : Nat} {Q : sm_Q} {I : sm_MI} {J : sm_MJ} {x1 : Int32} {rz : Int32 ⊕ Nat} {s : Bool} {Iz : sm_MI}
    (hD : 69 ≤ D) (hd : (t = 21 ∧ d = 41) ∨ (t = 41 ∧ d = 21)) (h : F_VM_valley d x1 I = some (rz, (s, Iz))) (hQ1 : ∀ v, rz = .inl v → Q (.inl (some (.int v))) (Iz, J, swp s t d)) (hQ2 : ∀ E, rz = .inr E → Q (.inr E) (Iz, J, swp s t d)) : sm_W sm_sh X (sm_C sm_sh X sm_P D) me_104 Q (0, [some (.ref 0), some (.int x1), none, none], [], 0, 0) (I, J, sm_rf t d) := by
  unfold F_VM_valley at h
  rcases hd with ⟨rfl, rfl⟩ | ⟨rfl, rfl⟩
  · refine sm_W.run (sm_C_mono D) 2 (G := True) (fr' := (if decide (x1 < 0) = true then 8 else 2, [some (.ref 0), some (.int x1), none, none], [], 0, 0)) (M' := (I, J, sm_rf 21 41)) rfl trivial (sm_W.iteD h (fun hc h => ?_) (fun hc h => ?_))
    · cases h
      exact sm_W.thr (sm_C_mono D) rfl (hQ2 _ rfl)
    refine sm_W.run (sm_C_mono D) 6 (G := True) (fr' := (if decide (x1 ≤ I 4 1) = true then 13 else 8, [some (.ref 0), some (.int x1), none, none], [], 0, 0)) (M' := (I, J, sm_rf 21 41)) rfl trivial (sm_W.iteD h (fun hc h => ?_) (fun hc h => ?_))
    · refine sm_W.run (sm_C_mono D) 5 (G := True) (fr' := (18, [some (.ref 0), some (.int x1), none, none], [.ref 41, .int x1, .ref 3], 0, 0)) (M' := (I, J, sm_rf 21 41)) rfl trivial ?_
      obtain ⟨r1, I2, hc, h⟩ := sd_q2_go h
      refine sm_W.cal (sm_C_mono D) (y := 26) (as := [.ref 3, .int x1, .ref 41]) (fr' := (19, [some (.ref 0), some (.int x1), none, none], [], 0, 0)) rfl (T_Reader_read (by omega) (by decide) hc ?_)
      show sm_W sm_sh X (sm_C sm_sh X sm_P D) me_104 Q (19, [some (.ref 0), some (.int x1), none, none], [.int r1], 0, 0) (I2, J, sm_rf 21 41)
      refine sm_W.runL (sm_C_mono D) 6 (G := True) (e := (sd_up I2 4 1 (0 : Int32))) (fr' := fun _ => (25, [some (.ref 0), some (.int x1), some (.int r1), none], [], 0, 0)) (M' := fun I3 => (I3, J, sm_rf 21 41)) rfl h trivial (fun I3 h => ?_)
      refine sm_W.run (sm_C_mono D) 2 (G := True) (fr' := (if decide (r1 = 0) = true then 42 else 27, [some (.ref 0), some (.int x1), some (.int r1), none], [], 0, 0)) (M' := (I3, J, sm_rf 21 41)) rfl trivial (sm_W.iteD h (fun hc h => ?_) (fun hc h => ?_))
      · refine sm_W.run (sm_C_mono D) 10 (G := True) (fr' := (52, [some (.ref 0), some (.int x1), some (.int r1), some (.ref 21)], [], 0, 0)) (M' := (I3, J, va_up (va_up (sm_rf 21 41) 0 (va_up (sm_rf 21 41 0) 6 41)) 0 (va_up (va_up (sm_rf 21 41) 0 (va_up (sm_rf 21 41 0) 6 41) 0) 7 21))) rfl trivial ?_
        rw [rf_swap]
        refine sm_W.runL (sm_C_mono D) 3 (G := True) (e := (sd_up I3 0 8 (-1 : Int32))) (fr' := fun _ => (55, [some (.ref 0), some (.int x1), some (.int r1), some (.ref 21)], [], 0, 0)) (M' := fun I4 => (I4, J, sm_rf 41 21)) rfl h trivial (fun I4 h => ?_)
        refine sm_W.runL (sm_C_mono D) 3 (G := True) (e := (sd_up I4 0 9 (0 : Int32))) (fr' := fun _ => (58, [some (.ref 0), some (.int x1), some (.int r1), some (.ref 21)], [], 0, 0)) (M' := fun I5 => (I5, J, sm_rf 41 21)) rfl h trivial (fun I5 h => ?_)
        refine sm_W.run (sm_C_mono D) 9 (G := True) (fr' := (67, [some (.ref 0), some (.int x1), some (.int r1), some (.ref 21)], [.int (((1 : Int32) <<< ((I5 41 0) &&& 31)) - 1), .ref 8], 0, 0)) (M' := (I5, J, sm_rf 41 21)) rfl trivial ?_
        obtain ⟨I6, hc, h⟩ := sd_q1_go h
        refine sm_W.cal (sm_C_mono D) (y := 18) (as := [.ref 8, .int (((1 : Int32) <<< ((I5 41 0) &&& 31)) - 1)]) (fr' := (68, [some (.ref 0), some (.int x1), some (.int r1), some (.ref 21)], [], 0, 0)) rfl (T_Story_begin (by omega) hc ?_)
        show sm_W sm_sh X (sm_C sm_sh X sm_P D) me_104 Q (68, [some (.ref 0), some (.int x1), some (.int r1), some (.ref 21)], [], 0, 0) (I6, J, sm_rf 41 21)
        refine sm_W.run (sm_C_mono D) 1 (G := True) (fr' := (69, [some (.ref 0), some (.int x1), some (.int r1), some (.ref 21)], [.int (0 : Int32)], 0, 0)) (M' := (I6, J, sm_rf 41 21)) rfl trivial ?_
        cases h
        exact sm_W.ret (sm_C_mono D) rfl (hQ1 _ rfl)
      · refine sm_W.run (sm_C_mono D) 3 (G := True) (fr' := (30, [some (.ref 0), some (.int x1), some (.int r1), none], [.ref 3, .ref 0], 0, 0)) (M' := (I3, J, sm_rf 21 41)) rfl trivial ?_
        obtain ⟨r4, hc, h⟩ := sd_q1_go h
        refine sm_W.cal (sm_C_mono D) (y := 27) (as := [.ref 3]) (fr' := (31, [some (.ref 0), some (.int x1), some (.int r1), none], [.ref 0], 0, 0)) rfl (T_Reader_place (by omega) hc ?_)
        show sm_W sm_sh X (sm_C sm_sh X sm_P D) me_104 Q (31, [some (.ref 0), some (.int x1), some (.int r1), none], [.int r4, .ref 0], 0, 0) (I3, J, sm_rf 21 41)
        refine sm_W.runL (sm_C_mono D) 1 (G := True) (e := (sd_up I3 0 8 r4)) (fr' := fun _ => (32, [some (.ref 0), some (.int x1), some (.int r1), none], [], 0, 0)) (M' := fun I5 => (I5, J, sm_rf 21 41)) rfl h trivial (fun I5 h => ?_)
        obtain ⟨g6, h⟩ := sd_gu_go h
        refine sm_W.runL (sm_C_mono D) 8 (G := sm_in (0 : Int32) 3 = true ∧ sm_in (0 : Int32) 3 = true ∧ True) (e := (sd_up I5 1 0 ((I5 1 0) + (1 : Int32)))) (fr' := fun _ => (40, [some (.ref 0), some (.int x1), some (.int r1), none], [], 0, 0)) (M' := fun I7 => (I7, J, sm_rf 21 41)) rfl h ⟨g6, g6, trivial⟩ (fun I7 h => ?_)
        refine sm_W.run (sm_C_mono D) 1 (G := True) (fr' := (41, [some (.ref 0), some (.int x1), some (.int r1), none], [.int r1], 0, 0)) (M' := (I7, J, sm_rf 21 41)) rfl trivial ?_
        cases h
        exact sm_W.ret (sm_C_mono D) rfl (hQ1 _ rfl)
    · cases h
      exact sm_W.thr (sm_C_mono D) rfl (hQ2 _ rfl)
  · refine sm_W.run (sm_C_mono D) 2 (G := True) (fr' := (if decide (x1 < 0) = true then 8 else 2, [some (.ref 0), some (.int x1), none, none], [], 0, 0)) (M' := (I, J, sm_rf 41 21)) rfl trivial (sm_W.iteD h (fun hc h => ?_) (fun hc h => ?_))
    · cases h
      exact sm_W.thr (sm_C_mono D) rfl (hQ2 _ rfl)
    refine sm_W.run (sm_C_mono D) 6 (G := True) (fr' := (if decide (x1 ≤ I 4 1) = true then 13 else 8, [some (.ref 0), some (.int x1), none, none], [], 0, 0)) (M' := (I, J, sm_rf 41 21)) rfl trivial (sm_W.iteD h (fun hc h => ?_) (fun hc h => ?_))
    · refine sm_W.run (sm_C_mono D) 5 (G := True) (fr' := (18, [some (.ref 0), some (.int x1), none, none], [.ref 21, .int x1, .ref 3], 0, 0)) (M' := (I, J, sm_rf 41 21)) rfl trivial ?_
      obtain ⟨r1, I2, hc, h⟩ := sd_q2_go h
      refine sm_W.cal (sm_C_mono D) (y := 26) (as := [.ref 3, .int x1, .ref 21]) (fr' := (19, [some (.ref 0), some (.int x1), none, none], [], 0, 0)) rfl (T_Reader_read (by omega) (by decide) hc ?_)
      show sm_W sm_sh X (sm_C sm_sh X sm_P D) me_104 Q (19, [some (.ref 0), some (.int x1), none, none], [.int r1], 0, 0) (I2, J, sm_rf 41 21)
      refine sm_W.runL (sm_C_mono D) 6 (G := True) (e := (sd_up I2 4 1 (0 : Int32))) (fr' := fun _ => (25, [some (.ref 0), some (.int x1), some (.int r1), none], [], 0, 0)) (M' := fun I3 => (I3, J, sm_rf 41 21)) rfl h trivial (fun I3 h => ?_)
      refine sm_W.run (sm_C_mono D) 2 (G := True) (fr' := (if decide (r1 = 0) = true then 42 else 27, [some (.ref 0), some (.int x1), some (.int r1), none], [], 0, 0)) (M' := (I3, J, sm_rf 41 21)) rfl trivial (sm_W.iteD h (fun hc h => ?_) (fun hc h => ?_))
      · refine sm_W.run (sm_C_mono D) 10 (G := True) (fr' := (52, [some (.ref 0), some (.int x1), some (.int r1), some (.ref 41)], [], 0, 0)) (M' := (I3, J, va_up (va_up (sm_rf 41 21) 0 (va_up (sm_rf 41 21 0) 6 21)) 0 (va_up (va_up (sm_rf 41 21) 0 (va_up (sm_rf 41 21 0) 6 21) 0) 7 41))) rfl trivial ?_
        rw [rf_swap]
        refine sm_W.runL (sm_C_mono D) 3 (G := True) (e := (sd_up I3 0 8 (-1 : Int32))) (fr' := fun _ => (55, [some (.ref 0), some (.int x1), some (.int r1), some (.ref 41)], [], 0, 0)) (M' := fun I4 => (I4, J, sm_rf 21 41)) rfl h trivial (fun I4 h => ?_)
        refine sm_W.runL (sm_C_mono D) 3 (G := True) (e := (sd_up I4 0 9 (0 : Int32))) (fr' := fun _ => (58, [some (.ref 0), some (.int x1), some (.int r1), some (.ref 41)], [], 0, 0)) (M' := fun I5 => (I5, J, sm_rf 21 41)) rfl h trivial (fun I5 h => ?_)
        refine sm_W.run (sm_C_mono D) 9 (G := True) (fr' := (67, [some (.ref 0), some (.int x1), some (.int r1), some (.ref 41)], [.int (((1 : Int32) <<< ((I5 21 0) &&& 31)) - 1), .ref 8], 0, 0)) (M' := (I5, J, sm_rf 21 41)) rfl trivial ?_
        obtain ⟨I6, hc, h⟩ := sd_q1_go h
        refine sm_W.cal (sm_C_mono D) (y := 18) (as := [.ref 8, .int (((1 : Int32) <<< ((I5 21 0) &&& 31)) - 1)]) (fr' := (68, [some (.ref 0), some (.int x1), some (.int r1), some (.ref 41)], [], 0, 0)) rfl (T_Story_begin (by omega) hc ?_)
        show sm_W sm_sh X (sm_C sm_sh X sm_P D) me_104 Q (68, [some (.ref 0), some (.int x1), some (.int r1), some (.ref 41)], [], 0, 0) (I6, J, sm_rf 21 41)
        refine sm_W.run (sm_C_mono D) 1 (G := True) (fr' := (69, [some (.ref 0), some (.int x1), some (.int r1), some (.ref 41)], [.int (0 : Int32)], 0, 0)) (M' := (I6, J, sm_rf 21 41)) rfl trivial ?_
        cases h
        exact sm_W.ret (sm_C_mono D) rfl (hQ1 _ rfl)
      · refine sm_W.run (sm_C_mono D) 3 (G := True) (fr' := (30, [some (.ref 0), some (.int x1), some (.int r1), none], [.ref 3, .ref 0], 0, 0)) (M' := (I3, J, sm_rf 41 21)) rfl trivial ?_
        obtain ⟨r4, hc, h⟩ := sd_q1_go h
        refine sm_W.cal (sm_C_mono D) (y := 27) (as := [.ref 3]) (fr' := (31, [some (.ref 0), some (.int x1), some (.int r1), none], [.ref 0], 0, 0)) rfl (T_Reader_place (by omega) hc ?_)
        show sm_W sm_sh X (sm_C sm_sh X sm_P D) me_104 Q (31, [some (.ref 0), some (.int x1), some (.int r1), none], [.int r4, .ref 0], 0, 0) (I3, J, sm_rf 41 21)
        refine sm_W.runL (sm_C_mono D) 1 (G := True) (e := (sd_up I3 0 8 r4)) (fr' := fun _ => (32, [some (.ref 0), some (.int x1), some (.int r1), none], [], 0, 0)) (M' := fun I5 => (I5, J, sm_rf 41 21)) rfl h trivial (fun I5 h => ?_)
        obtain ⟨g6, h⟩ := sd_gu_go h
        refine sm_W.runL (sm_C_mono D) 8 (G := sm_in (0 : Int32) 3 = true ∧ sm_in (0 : Int32) 3 = true ∧ True) (e := (sd_up I5 1 0 ((I5 1 0) + (1 : Int32)))) (fr' := fun _ => (40, [some (.ref 0), some (.int x1), some (.int r1), none], [], 0, 0)) (M' := fun I7 => (I7, J, sm_rf 41 21)) rfl h ⟨g6, g6, trivial⟩ (fun I7 h => ?_)
        refine sm_W.run (sm_C_mono D) 1 (G := True) (fr' := (41, [some (.ref 0), some (.int x1), some (.int r1), none], [.int r1], 0, 0)) (M' := (I7, J, sm_rf 41 21)) rfl trivial ?_
        cases h
        exact sm_W.ret (sm_C_mono D) rfl (hQ1 _ rfl)
    · cases h
      exact sm_W.thr (sm_C_mono D) rfl (hQ2 _ rfl)
theorem T_VM_valley {X : Nat × (Nat → Int32)} {t d D : Nat} {Q : sm_Q} {I : sm_MI} {J : sm_MJ} {x1 : Int32} {rz : Int32 ⊕ Nat} {s : Bool} {Iz : sm_MI}
    (hD : 70 ≤ D) (hd : (t = 21 ∧ d = 41) ∨ (t = 41 ∧ d = 21)) (h : F_VM_valley d x1 I = some (rz, (s, Iz))) (hQ1 : ∀ v, rz = .inl v → Q (.inl (some (.int v))) (Iz, J, swp s t d)) (hQ2 : ∀ E, rz = .inr E → Q (.inr E) (Iz, J, swp s t d)) : sm_C sm_sh X sm_P D 104 [.ref 0, .int x1] (I, J, sm_rf t d) Q := by
  cases D with
  | zero => omega
  | succ D => exact sm_C.of (me := me_104) (L := [some (.ref 0), some (.int x1), none, none]) rfl rfl rfl (sm_W.forget (L' := [some (.ref 0), some (.int x1), none, none]) ⟨rfl, ⟨rfl, trivial⟩⟩ (G_VM_valley (by omega) hd h hQ1 hQ2))
noncomputable def F_Law_valley (d : Nat) (x1 : Int32) (I : sm_MI) (J : sm_MJ) : Option (Int32 × (Bool × sm_MI) × sm_MJ) :=
  sd_t2 (F_VM_valley d x1 I) (fun r1 I2 => some ((0 : Int32), I2, sd_upJ J 96 0 (Int32.toInt64 r1))) (fun r1 I2 => if r1 = 0 then some ((1 : Int32), I2, J) else none)
theorem G_Law_valley {X : Nat × (Nat → Int32)} {t d D : Nat} {Q : sm_Q} {I : sm_MI} {J : sm_MJ} {x1 : Int32} {rz : Int32} {s : Bool} {Iz : sm_MI} {Jz : sm_MJ}
    (hD : 70 ≤ D) (hd : (t = 21 ∧ d = 41) ∨ (t = 41 ∧ d = 21)) (h : F_Law_valley d x1 I J = some (rz, (s, Iz), Jz)) (hQ : Q (.inl (some (.int rz))) (Iz, Jz, swp s t d)) : sm_W sm_sh X (sm_C sm_sh X sm_P D) me_271 Q (0, [some (.ref 0), some (.int x1), some (.ref 96), none], [], 0, 0) (I, J, sm_rf t d) := by
  unfold F_Law_valley at h
  refine sm_W.run (sm_C_mono D) 4 (G := True) (fr' := (4, [some (.ref 0), some (.int x1), some (.ref 96), none], [.int x1, .ref 0, .int (0 : Int32), .ref 96], 0, 0)) (M' := (I, J, sm_rf t d)) rfl trivial ?_
  rcases sd_t2_go h with ⟨r1, ⟨s2, I2⟩, hc, h⟩ | ⟨r1, ⟨s2, I2⟩, hc, h⟩
  · refine sm_W.cal (sm_C_mono D) (y := 104) (as := [.ref 0, .int x1]) (fr' := (5, [some (.ref 0), some (.int x1), some (.ref 96), none], [.int (0 : Int32), .ref 96], 1, 6)) rfl (T_VM_valley (by omega) hd hc (fun _ e => ?_) (fun _ e => by cases e))
    cases e
    show sm_W sm_sh X (sm_C sm_sh X sm_P D) me_271 Q (5, [some (.ref 0), some (.int x1), some (.ref 96), none], [.int r1, .int (0 : Int32), .ref 96], 1, 6) (I2, J, swp s2 t d)
    refine sm_W.run (sm_C_mono D) 4 (G := sm_in (0 : Int32) 1 = true ∧ True) (fr' := (12, [some (.ref 0), some (.int x1), some (.ref 96), none], [.int (0 : Int32)], 1, 6)) (M' := (I2, sd_upJ J 96 0 (Int32.toInt64 r1), swp s2 t d)) rfl ⟨by decide, trivial⟩ ?_
    cases h
    exact sm_W.ret (sm_C_mono D) rfl hQ
  · refine sm_W.cal (sm_C_mono D) (y := 104) (as := [.ref 0, .int x1]) (fr' := (5, [some (.ref 0), some (.int x1), some (.ref 96), none], [.int (0 : Int32), .ref 96], 1, 6)) rfl (T_VM_valley (by omega) hd hc (fun _ e => by cases e) (fun _ e => ?_))
    cases e
    rcases sd_if_go h with ⟨he, h⟩ | ⟨he, h⟩
    · subst he
      show sm_W sm_sh X (sm_C sm_sh X sm_P D) me_271 Q (9, [some (.ref 0), some (.int x1), some (.ref 96), none], [], 1, 6) (I2, J, swp s2 t d)
      refine sm_W.run (sm_C_mono D) 1 (G := True) (fr' := (10, [some (.ref 0), some (.int x1), some (.ref 96), none], [.int (1 : Int32)], 1, 6)) (M' := (I2, J, swp s2 t d)) rfl trivial ?_
      cases h
      exact sm_W.ret (sm_C_mono D) rfl hQ
    cases h
theorem T_Law_valley {X : Nat × (Nat → Int32)} {t d D : Nat} {Q : sm_Q} {I : sm_MI} {J : sm_MJ} {x1 : Int32} {rz : Int32} {s : Bool} {Iz : sm_MI} {Jz : sm_MJ}
    (hD : 71 ≤ D) (hd : (t = 21 ∧ d = 41) ∨ (t = 41 ∧ d = 21)) (h : F_Law_valley d x1 I J = some (rz, (s, Iz), Jz)) (hQ : Q (.inl (some (.int rz))) (Iz, Jz, swp s t d)) : sm_C sm_sh X sm_P D 271 [.ref 0, .int x1, .ref 96] (I, J, sm_rf t d) Q := by
  cases D with
  | zero => omega
  | succ D => exact sm_C.of (me := me_271) (L := [some (.ref 0), some (.int x1), some (.ref 96), none]) rfl rfl rfl (sm_W.forget (L' := [some (.ref 0), some (.int x1), some (.ref 96), none]) ⟨rfl, ⟨rfl, ⟨rfl, trivial⟩⟩⟩ (G_Law_valley (by omega) hd h hQ))
