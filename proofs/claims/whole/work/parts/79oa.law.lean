/-! ===== the law's cases 0 ===== -/
set_option maxRecDepth 100000 in
theorem K_feed {A : sA} {R : Nat → List Nat} {t d D nc ns : Nat} {X : Nat × (Nat → Int32)} {Q : sm_Q} {I : sm_MI} {J : sm_MJ} {i : Int32} (hD : 80 ≤ D) (hd : (t = 21 ∧ d = 41) ∨ (t = 41 ∧ d = 21)) (h : Rel A R t I I) (h1 : sm_in (i + 1) X.1 = true) (h2 : sm_in (i + 2) X.1 = true) (h3 : sm_in (i + 3) X.1 = true) (h4 : sm_in (i + 4) X.1 = true) (h5 : sm_in (i + 5) X.1 = true) (hn : nc + 8 ≤ 601024) (hs : ns + 64 ≤ 7293034)
    (hK : ∀ (A' : sA) (R' : Nat → List Nat) (t' d' : Nat) (I' : sm_MI) (J' : sm_MJ) (nc' ns' : Nat), ((t' = 21 ∧ d' = 41) ∨ (t' = 41 ∧ d' = 21)) → Rel A' R' t' I' I' → nc' ≤ nc + 8 → ns' ≤ ns + 64 → sm_W sm_sh X (sm_C sm_sh X sm_P D) me_304 Q (1540, [some (.ref 1000000), some (.ref 0), some (.ref 61), some (.ref 96), some (.int i), none, none, none], [], nc', ns') (I', J', sm_rf t' d')) : sm_W sm_sh X (sm_C sm_sh X sm_P D) me_304 Q (25, [some (.ref 1000000), some (.ref 0), some (.ref 61), some (.ref 96), some (.int i), none, none, none], [], nc, ns) (I, J, sm_rf t d) := by
  have ht : t = 21 ∨ t = 41 := by omega
  obtain ⟨r, I1, v, I2, e1, e2, e3, e4⟩ := twoA (G := fun M => F_Mo_feed (X.2 (Int32.toNatClampNeg (i + 1))) (X.2 (Int32.toNatClampNeg (i + 2))) (X.2 (Int32.toNatClampNeg (i + 3))) (X.2 (Int32.toNatClampNeg (i + 4))) (X.2 (Int32.toNatClampNeg (i + 5))) M) h (fun M hM => x_feed hM (X.2 (Int32.toNatClampNeg (i + 1))) (X.2 (Int32.toNatClampNeg (i + 2))) (X.2 (Int32.toNatClampNeg (i + 3))) (X.2 (Int32.toNatClampNeg (i + 4))) (X.2 (Int32.toNatClampNeg (i + 5))))
  have e9 : v = r := e4.1
  subst e9
  refine sm_W.run (sm_C_mono D) 26 (G := sm_in (i + 1) X.1 = true ∧ sm_in (i + 2) X.1 = true ∧ sm_in (i + 3) X.1 = true ∧ sm_in (i + 4) X.1 = true ∧ sm_in (i + 5) X.1 = true ∧ True) (fr' := (51, [some (.ref 1000000), some (.ref 0), some (.ref 61), some (.ref 96), some (.int i), none, none, none], [.int (X.2 (Int32.toNatClampNeg (i + 5))), .int (X.2 (Int32.toNatClampNeg (i + 4))), .int (X.2 (Int32.toNatClampNeg (i + 3))), .int (X.2 (Int32.toNatClampNeg (i + 2))), .int (X.2 (Int32.toNatClampNeg (i + 1))), .ref 0], nc, ns)) (M' := (I, J, sm_rf t d)) rfl ⟨h1, h2, h3, h4, h5, trivial⟩ ?_
  refine sm_W.cal (sm_C_mono D) (y := 103) (as := [.ref 0, .int (X.2 (Int32.toNatClampNeg (i + 1))), .int (X.2 (Int32.toNatClampNeg (i + 2))), .int (X.2 (Int32.toNatClampNeg (i + 3))), .int (X.2 (Int32.toNatClampNeg (i + 4))), .int (X.2 (Int32.toNatClampNeg (i + 5)))]) (fr' := (52, [some (.ref 1000000), some (.ref 0), some (.ref 61), some (.ref 96), some (.int i), none, none, none], [], nc, ns)) (st_cv (i := 124) (q := 271) (a := 103) (b := 6) (c := 12) (t := [0, 0, 242]) rfl rfl rfl (by show _ + 0 ≤ 601024; omega) (by show _ + 0 ≤ 7293034; omega) rfl) (T_VM_feed (by omega) e1 ?_)
  show sm_W sm_sh X (sm_C sm_sh X sm_P D) me_304 Q (52, [some (.ref 1000000), some (.ref 0), some (.ref 61), some (.ref 96), some (.int i), none, none, none], [.int v], nc, ns) (I1, J, sm_rf t d)
  refine sm_W.run (sm_C_mono D) 26 (G := sm_in (i + 1) X.1 = true ∧ sm_in (i + 2) X.1 = true ∧ sm_in (i + 3) X.1 = true ∧ sm_in (i + 4) X.1 = true ∧ sm_in (i + 5) X.1 = true ∧ True) (fr' := (78, [some (.ref 1000000), some (.ref 0), some (.ref 61), some (.ref 96), some (.int i), none, none, none], [.int (X.2 (Int32.toNatClampNeg (i + 5))), .int (X.2 (Int32.toNatClampNeg (i + 4))), .int (X.2 (Int32.toNatClampNeg (i + 3))), .int (X.2 (Int32.toNatClampNeg (i + 2))), .int (X.2 (Int32.toNatClampNeg (i + 1))), .ref 61, .int v], nc, ns)) (M' := (I1, J, sm_rf t d)) rfl ⟨h1, h2, h3, h4, h5, trivial⟩ ?_
  refine sm_W.cal (sm_C_mono D) (y := 162) (as := [.ref 61, .int (X.2 (Int32.toNatClampNeg (i + 1))), .int (X.2 (Int32.toNatClampNeg (i + 2))), .int (X.2 (Int32.toNatClampNeg (i + 3))), .int (X.2 (Int32.toNatClampNeg (i + 4))), .int (X.2 (Int32.toNatClampNeg (i + 5)))]) (fr' := (79, [some (.ref 1000000), some (.ref 0), some (.ref 61), some (.ref 96), some (.int i), none, none, none], [.int v], nc, ns)) (st_cv (i := 128) (q := 305) (a := 162) (b := 6) (c := 13) (t := [0, 0, 243]) rfl rfl rfl (by show _ + 0 ≤ 601024; omega) (by show _ + 0 ≤ 7293034; omega) rfl) (T_Mo_feed (by omega) e2 ?_)
  show sm_W sm_sh X (sm_C sm_sh X sm_P D) me_304 Q (79, [some (.ref 1000000), some (.ref 0), some (.ref 61), some (.ref 96), some (.int i), none, none, none], [.int v, .int v], nc, ns) (I2, J, sm_rf t d)
  refine sm_W.run (sm_C_mono D) 1 (G := True) (fr' := (if decide (v = v) = true then 1540 else 80, [some (.ref 1000000), some (.ref 0), some (.ref 61), some (.ref 96), some (.int i), none, none, none], [], nc, ns)) (M' := (I2, J, sm_rf t d)) rfl trivial ?_
  rw [if_pos (decide_eq_true rfl)]
  exact hK A R t d I2 J nc ns hd e3 (by omega) (by omega)
set_option maxRecDepth 100000 in
theorem K_valley {A : sA} {R : Nat → List Nat} {t d D nc ns : Nat} {X : Nat × (Nat → Int32)} {Q : sm_Q} {I : sm_MI} {J : sm_MJ} {i : Int32} (hD : 80 ≤ D) (hd : (t = 21 ∧ d = 41) ∨ (t = 41 ∧ d = 21)) (h : Rel A R t I I) (h1 : sm_in (i + 1) X.1 = true) (h2 : sm_in (i + 2) X.1 = true) (h3 : sm_in (i + 3) X.1 = true) (h4 : sm_in (i + 4) X.1 = true) (h5 : sm_in (i + 5) X.1 = true) (hn : nc + 8 ≤ 601024) (hs : ns + 64 ≤ 7293034)
    (hK : ∀ (A' : sA) (R' : Nat → List Nat) (t' d' : Nat) (I' : sm_MI) (J' : sm_MJ) (nc' ns' : Nat), ((t' = 21 ∧ d' = 41) ∨ (t' = 41 ∧ d' = 21)) → Rel A' R' t' I' I' → nc' ≤ nc + 8 → ns' ≤ ns + 64 → sm_W sm_sh X (sm_C sm_sh X sm_P D) me_304 Q (1540, [some (.ref 1000000), some (.ref 0), some (.ref 61), some (.ref 96), some (.int i), none, none, none], [], nc', ns') (I', J', sm_rf t' d')) : sm_W sm_sh X (sm_C sm_sh X sm_P D) me_304 Q (82, [some (.ref 1000000), some (.ref 0), some (.ref 61), some (.ref 96), some (.int i), none, none, none], [], nc, ns) (I, J, sm_rf t d) := by
  have ht : t = 21 ∨ t = 41 := by omega
  obtain ⟨k, sw, I1, J1, v, I2, J2, A', R', e1, e2, e3, e5, e6⟩ := twoW (J := J) h hd (X.2 (Int32.toNatClampNeg (i + 1)))
  obtain ⟨t', d', hsw, hd', htt⟩ : ∃ t' d', swp sw t d = sm_rf t' d' ∧ ((t' = 21 ∧ d' = 41) ∨ (t' = 41 ∧ d' = 21)) ∧ (if sw then d else t) = t' := by
    cases sw
    · exact ⟨t, d, rfl, hd, rfl⟩
    · exact ⟨d, t, rfl, by omega, rfl⟩
  rw [htt] at e3
  refine sm_W.run (sm_C_mono D) 7 (G := sm_in (i + 1) X.1 = true ∧ True) (fr' := (89, [some (.ref 1000000), some (.ref 0), some (.ref 61), some (.ref 96), some (.int i), none, none, none], [.ref 96, .int (X.2 (Int32.toNatClampNeg (i + 1))), .ref 0], nc, ns)) (M' := (I, J, sm_rf t d)) rfl ⟨h1, trivial⟩ ?_
  refine sm_W.cal (sm_C_mono D) (y := 271) (as := [.ref 0, .int (X.2 (Int32.toNatClampNeg (i + 1))), .ref 96]) (fr' := (90, [some (.ref 1000000), some (.ref 0), some (.ref 61), some (.ref 96), some (.int i), none, none, none], [], nc + 1, ns + 6)) (st_cs (i := 129) (q := 321) (a := 271) (b := 3) (t := [1, 6, 244]) rfl rfl rfl (by show _ + 1 ≤ 601024; omega) (by show _ + 6 ≤ 7293034; omega)) (T_Law_valley (by omega) hd e1 ?_)
  show sm_W sm_sh X (sm_C sm_sh X sm_P D) me_304 Q (90, [some (.ref 1000000), some (.ref 0), some (.ref 61), some (.ref 96), some (.int i), none, none, none], [.int k], nc + 1, ns + 6) (I1, J1, swp sw t d)
  rw [hsw]
  refine sm_W.run (sm_C_mono D) 1 (G := True) (fr' := (91, [some (.ref 1000000), some (.ref 0), some (.ref 61), some (.ref 96), some (.int i), some (.int k), none, none], [], nc + 1, ns + 6)) (M' := (I1, J1, sm_rf t' d')) rfl trivial ?_
  refine sm_W.run (sm_C_mono D) 6 (G := sm_in (i + 1) X.1 = true ∧ True) (fr' := (97, [some (.ref 1000000), some (.ref 0), some (.ref 61), some (.ref 96), some (.int i), some (.int k), none, none], [.int (X.2 (Int32.toNatClampNeg (i + 1))), .ref 61], nc + 1, ns + 6)) (M' := (I1, J1, sm_rf t' d')) rfl ⟨h1, trivial⟩ ?_
  refine sm_W.cal (sm_C_mono D) (y := 191) (as := [.ref 61, .int (X.2 (Int32.toNatClampNeg (i + 1)))]) (fr' := (98, [some (.ref 1000000), some (.ref 0), some (.ref 61), some (.ref 96), some (.int i), some (.int k), none, none], [], nc + 1, ns + 6)) (st_cv (i := 134) (q := 333) (a := 191) (b := 2) (c := 13) (t := [0, 0, 245]) rfl rfl rfl (by show _ + 0 ≤ 601024; omega) (by show _ + 0 ≤ 7293034; omega) rfl) (T_Mo_valley (by omega) e2 ?_)
  show sm_W sm_sh X (sm_C sm_sh X sm_P D) me_304 Q (98, [some (.ref 1000000), some (.ref 0), some (.ref 61), some (.ref 96), some (.int i), some (.int k), none, none], [.int v], nc + 1, ns + 6) (I2, J2, sm_rf t' d')
  refine sm_W.run (sm_C_mono D) 2 (G := True) (fr' := (100, [some (.ref 1000000), some (.ref 0), some (.ref 61), some (.ref 96), some (.int i), some (.int k), some (.int v), none], [.ref 61], nc + 1, ns + 6)) (M' := (I2, J2, sm_rf t' d')) rfl trivial ?_
  refine sm_W.cal (sm_C_mono D) (y := 157) (as := [.ref 61]) (fr' := (101, [some (.ref 1000000), some (.ref 0), some (.ref 61), some (.ref 96), some (.int i), some (.int k), some (.int v), none], [], nc + 1, ns + 6)) (st_cv (i := 135) (q := 339) (a := 157) (b := 1) (c := 13) (t := [0, 0, 246]) rfl rfl rfl (by show _ + 0 ≤ 601024; omega) (by show _ + 0 ≤ 7293034; omega) rfl) (T_Mo_thrown (by omega) rfl ?_)
  show sm_W sm_sh X (sm_C sm_sh X sm_P D) me_304 Q (101, [some (.ref 1000000), some (.ref 0), some (.ref 61), some (.ref 96), some (.int i), some (.int k), some (.int v), none], [.int (I2 61 0)], nc + 1, ns + 6) (I2, J2, sm_rf t' d')
  refine sm_W.run (sm_C_mono D) 2 (G := True) (fr' := (if decide (I2 61 0 = k) = true then 105 else 103, [some (.ref 1000000), some (.ref 0), some (.ref 61), some (.ref 96), some (.int i), some (.int k), some (.int v), none], [], nc + 1, ns + 6)) (M' := (I2, J2, sm_rf t' d')) rfl trivial ?_
  rw [if_pos (decide_eq_true e5)]
  refine sm_W.run (sm_C_mono D) 2 (G := True) (fr' := (if decide (¬ k = 0) = true then 116 else 107, [some (.ref 1000000), some (.ref 0), some (.ref 61), some (.ref 96), some (.int i), some (.int k), some (.int v), none], [], nc + 1, ns + 6)) (M' := (I2, J2, sm_rf t' d')) rfl trivial ?_
  have fin : sm_W sm_sh X (sm_C sm_sh X sm_P D) me_304 Q (116, [some (.ref 1000000), some (.ref 0), some (.ref 61), some (.ref 96), some (.int i), some (.int k), some (.int v), none], [], nc + 1, ns + 6) (I2, J2, sm_rf t' d') := by
    refine sm_W.run (sm_C_mono D) 1 (G := True) (fr' := (1540, [some (.ref 1000000), some (.ref 0), some (.ref 61), some (.ref 96), some (.int i), some (.int k), some (.int v), none], [], nc + 1, ns + 6)) (M' := (I2, J2, sm_rf t' d')) rfl trivial ?_
    exact sm_W.forget (L' := [some (.ref 1000000), some (.ref 0), some (.ref 61), some (.ref 96), some (.int i), none, none, none]) ⟨rfl, rfl, rfl, rfl, rfl, trivial⟩ (hK A' R' t' d' I2 J2 (nc + 1) (ns + 6) hd' e3 (by omega) (by omega))
  by_cases hk : k = 0
  · rw [if_neg (by rw [decide_eq_true_eq]; exact fun z => z hk)]
    have e8 := e6 hk
    refine sm_W.run (sm_C_mono D) 7 (G := sm_in (0 : Int32) 1 = true ∧ True) (fr' := (if decide (lg_cmp (J2 96 0) (Int32.toInt64 v) = 0) = true then 116 else 114, [some (.ref 1000000), some (.ref 0), some (.ref 61), some (.ref 96), some (.int i), some (.int k), some (.int v), none], [], nc + 1, ns + 6)) (M' := (I2, J2, sm_rf t' d')) rfl ⟨by decide, trivial⟩ ?_
    rw [if_pos (decide_eq_true (by rw [e8, lg_self]))]
    exact fin
  · rw [if_pos (decide_eq_true hk)]
    exact fin
set_option maxRecDepth 100000 in
theorem K_fault {A : sA} {R : Nat → List Nat} {t d D nc ns : Nat} {X : Nat × (Nat → Int32)} {Q : sm_Q} {I : sm_MI} {J : sm_MJ} {i : Int32} (hD : 80 ≤ D) (hd : (t = 21 ∧ d = 41) ∨ (t = 41 ∧ d = 21)) (h : Rel A R t I I) (h1 : sm_in (i + 1) X.1 = true) (h2 : sm_in (i + 2) X.1 = true) (h3 : sm_in (i + 3) X.1 = true) (h4 : sm_in (i + 4) X.1 = true) (h5 : sm_in (i + 5) X.1 = true) (hn : nc + 8 ≤ 601024) (hs : ns + 64 ≤ 7293034)
    (hK : ∀ (A' : sA) (R' : Nat → List Nat) (t' d' : Nat) (I' : sm_MI) (J' : sm_MJ) (nc' ns' : Nat), ((t' = 21 ∧ d' = 41) ∨ (t' = 41 ∧ d' = 21)) → Rel A' R' t' I' I' → nc' ≤ nc + 8 → ns' ≤ ns + 64 → sm_W sm_sh X (sm_C sm_sh X sm_P D) me_304 Q (1540, [some (.ref 1000000), some (.ref 0), some (.ref 61), some (.ref 96), some (.int i), none, none, none], [], nc', ns') (I', J', sm_rf t' d')) : sm_W sm_sh X (sm_C sm_sh X sm_P D) me_304 Q (117, [some (.ref 1000000), some (.ref 0), some (.ref 61), some (.ref 96), some (.int i), none, none, none], [], nc, ns) (I, J, sm_rf t d) := by
  have ht : t = 21 ∨ t = 41 := by omega
  obtain ⟨r, e1, hq⟩ := q_fault h 
  obtain ⟨v, I2, e2, e3, e4⟩ := two0 h hq
  have e9 : v = r := e4.1
  subst e9
  refine sm_W.run (sm_C_mono D) 1 (G := True) (fr' := (118, [some (.ref 1000000), some (.ref 0), some (.ref 61), some (.ref 96), some (.int i), none, none, none], [.ref 0], nc, ns)) (M' := (I, J, sm_rf t d)) rfl trivial ?_
  refine sm_W.cal (sm_C_mono D) (y := 105) (as := [.ref 0]) (fr' := (119, [some (.ref 1000000), some (.ref 0), some (.ref 61), some (.ref 96), some (.int i), none, none, none], [], nc, ns)) (st_cv (i := 139) (q := 370) (a := 105) (b := 1) (c := 12) (t := [0, 0, 247]) rfl rfl rfl (by show _ + 0 ≤ 601024; omega) (by show _ + 0 ≤ 7293034; omega) rfl) (T_VM_fault (by omega) e1 ?_)
  show sm_W sm_sh X (sm_C sm_sh X sm_P D) me_304 Q (119, [some (.ref 1000000), some (.ref 0), some (.ref 61), some (.ref 96), some (.int i), none, none, none], [.int v], nc, ns) (I, J, sm_rf t d)
  refine sm_W.run (sm_C_mono D) 1 (G := True) (fr' := (120, [some (.ref 1000000), some (.ref 0), some (.ref 61), some (.ref 96), some (.int i), none, none, none], [.ref 61, .int v], nc, ns)) (M' := (I, J, sm_rf t d)) rfl trivial ?_
  refine sm_W.cal (sm_C_mono D) (y := 192) (as := [.ref 61]) (fr' := (121, [some (.ref 1000000), some (.ref 0), some (.ref 61), some (.ref 96), some (.int i), none, none, none], [.int v], nc, ns)) (st_cv (i := 142) (q := 374) (a := 192) (b := 1) (c := 13) (t := [0, 0, 248]) rfl rfl rfl (by show _ + 0 ≤ 601024; omega) (by show _ + 0 ≤ 7293034; omega) rfl) (T_Mo_fault (by omega) e2 ?_)
  show sm_W sm_sh X (sm_C sm_sh X sm_P D) me_304 Q (121, [some (.ref 1000000), some (.ref 0), some (.ref 61), some (.ref 96), some (.int i), none, none, none], [.int v, .int v], nc, ns) (I2, J, sm_rf t d)
  refine sm_W.run (sm_C_mono D) 1 (G := True) (fr' := (if decide (v = v) = true then 1540 else 122, [some (.ref 1000000), some (.ref 0), some (.ref 61), some (.ref 96), some (.int i), none, none, none], [], nc, ns)) (M' := (I2, J, sm_rf t d)) rfl trivial ?_
  rw [if_pos (decide_eq_true rfl)]
  exact hK A R t d I2 J nc ns hd e3 (by omega) (by omega)
set_option maxRecDepth 100000 in
theorem K_count {A : sA} {R : Nat → List Nat} {t d D nc ns : Nat} {X : Nat × (Nat → Int32)} {Q : sm_Q} {I : sm_MI} {J : sm_MJ} {i : Int32} (hD : 80 ≤ D) (hd : (t = 21 ∧ d = 41) ∨ (t = 41 ∧ d = 21)) (h : Rel A R t I I) (h1 : sm_in (i + 1) X.1 = true) (h2 : sm_in (i + 2) X.1 = true) (h3 : sm_in (i + 3) X.1 = true) (h4 : sm_in (i + 4) X.1 = true) (h5 : sm_in (i + 5) X.1 = true) (hn : nc + 8 ≤ 601024) (hs : ns + 64 ≤ 7293034)
    (hK : ∀ (A' : sA) (R' : Nat → List Nat) (t' d' : Nat) (I' : sm_MI) (J' : sm_MJ) (nc' ns' : Nat), ((t' = 21 ∧ d' = 41) ∨ (t' = 41 ∧ d' = 21)) → Rel A' R' t' I' I' → nc' ≤ nc + 8 → ns' ≤ ns + 64 → sm_W sm_sh X (sm_C sm_sh X sm_P D) me_304 Q (1540, [some (.ref 1000000), some (.ref 0), some (.ref 61), some (.ref 96), some (.int i), none, none, none], [], nc', ns') (I', J', sm_rf t' d')) : sm_W sm_sh X (sm_C sm_sh X sm_P D) me_304 Q (124, [some (.ref 1000000), some (.ref 0), some (.ref 61), some (.ref 96), some (.int i), none, none, none], [], nc, ns) (I, J, sm_rf t d) := by
  have ht : t = 21 ∨ t = 41 := by omega
  obtain ⟨r, e1, hq⟩ := q_count h (X.2 (Int32.toNatClampNeg (i + 1)))
  obtain ⟨v, I2, e2, e3, e4⟩ := two0 h hq
  obtain ⟨k, J1, e5, e6⟩ := wr0 (J := J) e1 P_VM_count
  have e7 : F_Law_count t (X.2 (Int32.toNatClampNeg (i + 1))) I J = some (k, J1) := e5
  obtain ⟨e5, e6⟩ := e6 v I2 e4
  refine sm_W.run (sm_C_mono D) 7 (G := sm_in (i + 1) X.1 = true ∧ True) (fr' := (131, [some (.ref 1000000), some (.ref 0), some (.ref 61), some (.ref 96), some (.int i), none, none, none], [.ref 96, .int (X.2 (Int32.toNatClampNeg (i + 1))), .ref 0], nc, ns)) (M' := (I, J, sm_rf t d)) rfl ⟨h1, trivial⟩ ?_
  refine sm_W.cal (sm_C_mono D) (y := 272) (as := [.ref 0, .int (X.2 (Int32.toNatClampNeg (i + 1))), .ref 96]) (fr' := (132, [some (.ref 1000000), some (.ref 0), some (.ref 61), some (.ref 96), some (.int i), none, none, none], [], nc + 1, ns + 6)) (st_cs (i := 143) (q := 390) (a := 272) (b := 3) (t := [1, 6, 249]) rfl rfl rfl (by show _ + 1 ≤ 601024; omega) (by show _ + 6 ≤ 7293034; omega)) (T_Law_count (by omega) ht e7 ?_)
  show sm_W sm_sh X (sm_C sm_sh X sm_P D) me_304 Q (132, [some (.ref 1000000), some (.ref 0), some (.ref 61), some (.ref 96), some (.int i), none, none, none], [.int k], nc + 1, ns + 6) (I, J1, sm_rf t d)
  refine sm_W.run (sm_C_mono D) 1 (G := True) (fr' := (133, [some (.ref 1000000), some (.ref 0), some (.ref 61), some (.ref 96), some (.int i), some (.int k), none, none], [], nc + 1, ns + 6)) (M' := (I, J1, sm_rf t d)) rfl trivial ?_
  refine sm_W.run (sm_C_mono D) 6 (G := sm_in (i + 1) X.1 = true ∧ True) (fr' := (139, [some (.ref 1000000), some (.ref 0), some (.ref 61), some (.ref 96), some (.int i), some (.int k), none, none], [.int (X.2 (Int32.toNatClampNeg (i + 1))), .ref 61], nc + 1, ns + 6)) (M' := (I, J1, sm_rf t d)) rfl ⟨h1, trivial⟩ ?_
  refine sm_W.cal (sm_C_mono D) (y := 203) (as := [.ref 61, .int (X.2 (Int32.toNatClampNeg (i + 1)))]) (fr' := (140, [some (.ref 1000000), some (.ref 0), some (.ref 61), some (.ref 96), some (.int i), some (.int k), none, none], [], nc + 1, ns + 6)) (st_cv (i := 145) (q := 402) (a := 203) (b := 2) (c := 13) (t := [0, 0, 250]) rfl rfl rfl (by show _ + 0 ≤ 601024; omega) (by show _ + 0 ≤ 7293034; omega) rfl) (T_Mo_count (by omega) e2 ?_)
  show sm_W sm_sh X (sm_C sm_sh X sm_P D) me_304 Q (140, [some (.ref 1000000), some (.ref 0), some (.ref 61), some (.ref 96), some (.int i), some (.int k), none, none], [.int v], nc + 1, ns + 6) (I2, J1, sm_rf t d)
  refine sm_W.run (sm_C_mono D) 2 (G := True) (fr' := (142, [some (.ref 1000000), some (.ref 0), some (.ref 61), some (.ref 96), some (.int i), some (.int k), some (.int v), none], [.ref 61], nc + 1, ns + 6)) (M' := (I2, J1, sm_rf t d)) rfl trivial ?_
  refine sm_W.cal (sm_C_mono D) (y := 157) (as := [.ref 61]) (fr' := (143, [some (.ref 1000000), some (.ref 0), some (.ref 61), some (.ref 96), some (.int i), some (.int k), some (.int v), none], [], nc + 1, ns + 6)) (st_cv (i := 135) (q := 408) (a := 157) (b := 1) (c := 13) (t := [0, 0, 246]) rfl rfl rfl (by show _ + 0 ≤ 601024; omega) (by show _ + 0 ≤ 7293034; omega) rfl) (T_Mo_thrown (by omega) rfl ?_)
  show sm_W sm_sh X (sm_C sm_sh X sm_P D) me_304 Q (143, [some (.ref 1000000), some (.ref 0), some (.ref 61), some (.ref 96), some (.int i), some (.int k), some (.int v), none], [.int (I2 61 0)], nc + 1, ns + 6) (I2, J1, sm_rf t d)
  refine sm_W.run (sm_C_mono D) 2 (G := True) (fr' := (if decide (I2 61 0 = k) = true then 147 else 145, [some (.ref 1000000), some (.ref 0), some (.ref 61), some (.ref 96), some (.int i), some (.int k), some (.int v), none], [], nc + 1, ns + 6)) (M' := (I2, J1, sm_rf t d)) rfl trivial ?_
  rw [if_pos (decide_eq_true e5)]
  refine sm_W.run (sm_C_mono D) 2 (G := True) (fr' := (if decide (¬ k = 0) = true then 158 else 149, [some (.ref 1000000), some (.ref 0), some (.ref 61), some (.ref 96), some (.int i), some (.int k), some (.int v), none], [], nc + 1, ns + 6)) (M' := (I2, J1, sm_rf t d)) rfl trivial ?_
  have fin : sm_W sm_sh X (sm_C sm_sh X sm_P D) me_304 Q (158, [some (.ref 1000000), some (.ref 0), some (.ref 61), some (.ref 96), some (.int i), some (.int k), some (.int v), none], [], nc + 1, ns + 6) (I2, J1, sm_rf t d) := by
    refine sm_W.run (sm_C_mono D) 1 (G := True) (fr' := (1540, [some (.ref 1000000), some (.ref 0), some (.ref 61), some (.ref 96), some (.int i), some (.int k), some (.int v), none], [], nc + 1, ns + 6)) (M' := (I2, J1, sm_rf t d)) rfl trivial ?_
    exact sm_W.forget (L' := [some (.ref 1000000), some (.ref 0), some (.ref 61), some (.ref 96), some (.int i), none, none, none]) ⟨rfl, rfl, rfl, rfl, rfl, trivial⟩ (hK A R t d I2 J1 (nc + 1) (ns + 6) hd e3 (by omega) (by omega))
  by_cases hk : k = 0
  · rw [if_neg (by rw [decide_eq_true_eq]; exact fun z => z hk)]
    have e8 := e6 hk
    refine sm_W.run (sm_C_mono D) 7 (G := sm_in (0 : Int32) 1 = true ∧ True) (fr' := (if decide (lg_cmp (J1 96 0) (Int32.toInt64 v) = 0) = true then 158 else 156, [some (.ref 1000000), some (.ref 0), some (.ref 61), some (.ref 96), some (.int i), some (.int k), some (.int v), none], [], nc + 1, ns + 6)) (M' := (I2, J1, sm_rf t d)) rfl ⟨by decide, trivial⟩ ?_
    rw [if_pos (decide_eq_true (by rw [e8, lg_self]))]
    exact fin
  · rw [if_pos (decide_eq_true hk)]
    exact fin
set_option maxRecDepth 100000 in
theorem K_singer {A : sA} {R : Nat → List Nat} {t d D nc ns : Nat} {X : Nat × (Nat → Int32)} {Q : sm_Q} {I : sm_MI} {J : sm_MJ} {i : Int32} (hD : 80 ≤ D) (hd : (t = 21 ∧ d = 41) ∨ (t = 41 ∧ d = 21)) (h : Rel A R t I I) (h1 : sm_in (i + 1) X.1 = true) (h2 : sm_in (i + 2) X.1 = true) (h3 : sm_in (i + 3) X.1 = true) (h4 : sm_in (i + 4) X.1 = true) (h5 : sm_in (i + 5) X.1 = true) (hn : nc + 8 ≤ 601024) (hs : ns + 64 ≤ 7293034)
    (hK : ∀ (A' : sA) (R' : Nat → List Nat) (t' d' : Nat) (I' : sm_MI) (J' : sm_MJ) (nc' ns' : Nat), ((t' = 21 ∧ d' = 41) ∨ (t' = 41 ∧ d' = 21)) → Rel A' R' t' I' I' → nc' ≤ nc + 8 → ns' ≤ ns + 64 → sm_W sm_sh X (sm_C sm_sh X sm_P D) me_304 Q (1540, [some (.ref 1000000), some (.ref 0), some (.ref 61), some (.ref 96), some (.int i), none, none, none], [], nc', ns') (I', J', sm_rf t' d')) : sm_W sm_sh X (sm_C sm_sh X sm_P D) me_304 Q (159, [some (.ref 1000000), some (.ref 0), some (.ref 61), some (.ref 96), some (.int i), none, none, none], [], nc, ns) (I, J, sm_rf t d) := by
  have ht : t = 21 ∨ t = 41 := by omega
  obtain ⟨r, e1, hq⟩ := q_singer h (X.2 (Int32.toNatClampNeg (i + 1))) (X.2 (Int32.toNatClampNeg (i + 2)))
  obtain ⟨v, I2, e2, e3, e4⟩ := two0 h hq
  obtain ⟨k, J1, e5, e6⟩ := wr0 (J := J) e1 P_VM_singer
  have e7 : F_Law_singer t (X.2 (Int32.toNatClampNeg (i + 1))) (X.2 (Int32.toNatClampNeg (i + 2))) I J = some (k, J1) := e5
  obtain ⟨e5, e6⟩ := e6 v I2 e4
  refine sm_W.run (sm_C_mono D) 12 (G := sm_in (i + 1) X.1 = true ∧ sm_in (i + 2) X.1 = true ∧ True) (fr' := (171, [some (.ref 1000000), some (.ref 0), some (.ref 61), some (.ref 96), some (.int i), none, none, none], [.ref 96, .int (X.2 (Int32.toNatClampNeg (i + 2))), .int (X.2 (Int32.toNatClampNeg (i + 1))), .ref 0], nc, ns)) (M' := (I, J, sm_rf t d)) rfl ⟨h1, h2, trivial⟩ ?_
  refine sm_W.cal (sm_C_mono D) (y := 273) (as := [.ref 0, .int (X.2 (Int32.toNatClampNeg (i + 1))), .int (X.2 (Int32.toNatClampNeg (i + 2))), .ref 96]) (fr' := (172, [some (.ref 1000000), some (.ref 0), some (.ref 61), some (.ref 96), some (.int i), none, none, none], [], nc + 2, ns + 12)) (st_cs (i := 146) (q := 452) (a := 273) (b := 4) (t := [2, 12, 251]) rfl rfl rfl (by show _ + 2 ≤ 601024; omega) (by show _ + 12 ≤ 7293034; omega)) (T_Law_singer (by omega) ht e7 ?_)
  show sm_W sm_sh X (sm_C sm_sh X sm_P D) me_304 Q (172, [some (.ref 1000000), some (.ref 0), some (.ref 61), some (.ref 96), some (.int i), none, none, none], [.int k], nc + 2, ns + 12) (I, J1, sm_rf t d)
  refine sm_W.run (sm_C_mono D) 1 (G := True) (fr' := (173, [some (.ref 1000000), some (.ref 0), some (.ref 61), some (.ref 96), some (.int i), some (.int k), none, none], [], nc + 2, ns + 12)) (M' := (I, J1, sm_rf t d)) rfl trivial ?_
  refine sm_W.run (sm_C_mono D) 11 (G := sm_in (i + 1) X.1 = true ∧ sm_in (i + 2) X.1 = true ∧ True) (fr' := (184, [some (.ref 1000000), some (.ref 0), some (.ref 61), some (.ref 96), some (.int i), some (.int k), none, none], [.int (X.2 (Int32.toNatClampNeg (i + 2))), .int (X.2 (Int32.toNatClampNeg (i + 1))), .ref 61], nc + 2, ns + 12)) (M' := (I, J1, sm_rf t d)) rfl ⟨h1, h2, trivial⟩ ?_
  refine sm_W.cal (sm_C_mono D) (y := 207) (as := [.ref 61, .int (X.2 (Int32.toNatClampNeg (i + 1))), .int (X.2 (Int32.toNatClampNeg (i + 2)))]) (fr' := (185, [some (.ref 1000000), some (.ref 0), some (.ref 61), some (.ref 96), some (.int i), some (.int k), none, none], [], nc + 2, ns + 12)) (st_cv (i := 149) (q := 470) (a := 207) (b := 3) (c := 13) (t := [0, 0, 252]) rfl rfl rfl (by show _ + 0 ≤ 601024; omega) (by show _ + 0 ≤ 7293034; omega) rfl) (T_Mo_singer (by omega) e2 ?_)
  show sm_W sm_sh X (sm_C sm_sh X sm_P D) me_304 Q (185, [some (.ref 1000000), some (.ref 0), some (.ref 61), some (.ref 96), some (.int i), some (.int k), none, none], [.int v], nc + 2, ns + 12) (I2, J1, sm_rf t d)
  refine sm_W.run (sm_C_mono D) 2 (G := True) (fr' := (187, [some (.ref 1000000), some (.ref 0), some (.ref 61), some (.ref 96), some (.int i), some (.int k), some (.int v), none], [.ref 61], nc + 2, ns + 12)) (M' := (I2, J1, sm_rf t d)) rfl trivial ?_
  refine sm_W.cal (sm_C_mono D) (y := 157) (as := [.ref 61]) (fr' := (188, [some (.ref 1000000), some (.ref 0), some (.ref 61), some (.ref 96), some (.int i), some (.int k), some (.int v), none], [], nc + 2, ns + 12)) (st_cv (i := 135) (q := 476) (a := 157) (b := 1) (c := 13) (t := [0, 0, 246]) rfl rfl rfl (by show _ + 0 ≤ 601024; omega) (by show _ + 0 ≤ 7293034; omega) rfl) (T_Mo_thrown (by omega) rfl ?_)
  show sm_W sm_sh X (sm_C sm_sh X sm_P D) me_304 Q (188, [some (.ref 1000000), some (.ref 0), some (.ref 61), some (.ref 96), some (.int i), some (.int k), some (.int v), none], [.int (I2 61 0)], nc + 2, ns + 12) (I2, J1, sm_rf t d)
  refine sm_W.run (sm_C_mono D) 2 (G := True) (fr' := (if decide (I2 61 0 = k) = true then 192 else 190, [some (.ref 1000000), some (.ref 0), some (.ref 61), some (.ref 96), some (.int i), some (.int k), some (.int v), none], [], nc + 2, ns + 12)) (M' := (I2, J1, sm_rf t d)) rfl trivial ?_
  rw [if_pos (decide_eq_true e5)]
  refine sm_W.run (sm_C_mono D) 2 (G := True) (fr' := (if decide (¬ k = 0) = true then 203 else 194, [some (.ref 1000000), some (.ref 0), some (.ref 61), some (.ref 96), some (.int i), some (.int k), some (.int v), none], [], nc + 2, ns + 12)) (M' := (I2, J1, sm_rf t d)) rfl trivial ?_
  have fin : sm_W sm_sh X (sm_C sm_sh X sm_P D) me_304 Q (203, [some (.ref 1000000), some (.ref 0), some (.ref 61), some (.ref 96), some (.int i), some (.int k), some (.int v), none], [], nc + 2, ns + 12) (I2, J1, sm_rf t d) := by
    refine sm_W.run (sm_C_mono D) 1 (G := True) (fr' := (1540, [some (.ref 1000000), some (.ref 0), some (.ref 61), some (.ref 96), some (.int i), some (.int k), some (.int v), none], [], nc + 2, ns + 12)) (M' := (I2, J1, sm_rf t d)) rfl trivial ?_
    exact sm_W.forget (L' := [some (.ref 1000000), some (.ref 0), some (.ref 61), some (.ref 96), some (.int i), none, none, none]) ⟨rfl, rfl, rfl, rfl, rfl, trivial⟩ (hK A R t d I2 J1 (nc + 2) (ns + 12) hd e3 (by omega) (by omega))
  by_cases hk : k = 0
  · rw [if_neg (by rw [decide_eq_true_eq]; exact fun z => z hk)]
    have e8 := e6 hk
    refine sm_W.run (sm_C_mono D) 7 (G := sm_in (0 : Int32) 1 = true ∧ True) (fr' := (if decide (lg_cmp (J1 96 0) (Int32.toInt64 v) = 0) = true then 203 else 201, [some (.ref 1000000), some (.ref 0), some (.ref 61), some (.ref 96), some (.int i), some (.int k), some (.int v), none], [], nc + 2, ns + 12)) (M' := (I2, J1, sm_rf t d)) rfl ⟨by decide, trivial⟩ ?_
    rw [if_pos (decide_eq_true (by rw [e8, lg_self]))]
    exact fin
  · rw [if_pos (decide_eq_true hk)]
    exact fin
set_option maxRecDepth 100000 in
theorem K_row {A : sA} {R : Nat → List Nat} {t d D nc ns : Nat} {X : Nat × (Nat → Int32)} {Q : sm_Q} {I : sm_MI} {J : sm_MJ} {i : Int32} (hD : 80 ≤ D) (hd : (t = 21 ∧ d = 41) ∨ (t = 41 ∧ d = 21)) (h : Rel A R t I I) (h1 : sm_in (i + 1) X.1 = true) (h2 : sm_in (i + 2) X.1 = true) (h3 : sm_in (i + 3) X.1 = true) (h4 : sm_in (i + 4) X.1 = true) (h5 : sm_in (i + 5) X.1 = true) (hn : nc + 8 ≤ 601024) (hs : ns + 64 ≤ 7293034)
    (hK : ∀ (A' : sA) (R' : Nat → List Nat) (t' d' : Nat) (I' : sm_MI) (J' : sm_MJ) (nc' ns' : Nat), ((t' = 21 ∧ d' = 41) ∨ (t' = 41 ∧ d' = 21)) → Rel A' R' t' I' I' → nc' ≤ nc + 8 → ns' ≤ ns + 64 → sm_W sm_sh X (sm_C sm_sh X sm_P D) me_304 Q (1540, [some (.ref 1000000), some (.ref 0), some (.ref 61), some (.ref 96), some (.int i), none, none, none], [], nc', ns') (I', J', sm_rf t' d')) : sm_W sm_sh X (sm_C sm_sh X sm_P D) me_304 Q (204, [some (.ref 1000000), some (.ref 0), some (.ref 61), some (.ref 96), some (.int i), none, none, none], [], nc, ns) (I, J, sm_rf t d) := by
  have ht : t = 21 ∨ t = 41 := by omega
  obtain ⟨r, e1, hq⟩ := q_row h (X.2 (Int32.toNatClampNeg (i + 1))) (X.2 (Int32.toNatClampNeg (i + 2))) (X.2 (Int32.toNatClampNeg (i + 3)))
  obtain ⟨v, I2, e2, e3, e4⟩ := two0 h hq
  obtain ⟨k, J1, e5, e6⟩ := wr0 (J := J) e1 P_VM_row
  have e7 : F_Law_row t (X.2 (Int32.toNatClampNeg (i + 1))) (X.2 (Int32.toNatClampNeg (i + 2))) (X.2 (Int32.toNatClampNeg (i + 3))) I J = some (k, J1) := e5
  obtain ⟨e5, e6⟩ := e6 v I2 e4
  refine sm_W.run (sm_C_mono D) 17 (G := sm_in (i + 1) X.1 = true ∧ sm_in (i + 2) X.1 = true ∧ sm_in (i + 3) X.1 = true ∧ True) (fr' := (221, [some (.ref 1000000), some (.ref 0), some (.ref 61), some (.ref 96), some (.int i), none, none, none], [.ref 96, .int (X.2 (Int32.toNatClampNeg (i + 3))), .int (X.2 (Int32.toNatClampNeg (i + 2))), .int (X.2 (Int32.toNatClampNeg (i + 1))), .ref 0], nc, ns)) (M' := (I, J, sm_rf t d)) rfl ⟨h1, h2, h3, trivial⟩ ?_
  refine sm_W.cal (sm_C_mono D) (y := 274) (as := [.ref 0, .int (X.2 (Int32.toNatClampNeg (i + 1))), .int (X.2 (Int32.toNatClampNeg (i + 2))), .int (X.2 (Int32.toNatClampNeg (i + 3))), .ref 96]) (fr' := (222, [some (.ref 1000000), some (.ref 0), some (.ref 61), some (.ref 96), some (.int i), none, none, none], [], nc + 3, ns + 18)) (st_cs (i := 150) (q := 526) (a := 274) (b := 5) (t := [3, 18, 253]) rfl rfl rfl (by show _ + 3 ≤ 601024; omega) (by show _ + 18 ≤ 7293034; omega)) (T_Law_row (by omega) ht e7 ?_)
  show sm_W sm_sh X (sm_C sm_sh X sm_P D) me_304 Q (222, [some (.ref 1000000), some (.ref 0), some (.ref 61), some (.ref 96), some (.int i), none, none, none], [.int k], nc + 3, ns + 18) (I, J1, sm_rf t d)
  refine sm_W.run (sm_C_mono D) 1 (G := True) (fr' := (223, [some (.ref 1000000), some (.ref 0), some (.ref 61), some (.ref 96), some (.int i), some (.int k), none, none], [], nc + 3, ns + 18)) (M' := (I, J1, sm_rf t d)) rfl trivial ?_
  refine sm_W.run (sm_C_mono D) 16 (G := sm_in (i + 1) X.1 = true ∧ sm_in (i + 2) X.1 = true ∧ sm_in (i + 3) X.1 = true ∧ True) (fr' := (239, [some (.ref 1000000), some (.ref 0), some (.ref 61), some (.ref 96), some (.int i), some (.int k), none, none], [.int (X.2 (Int32.toNatClampNeg (i + 3))), .int (X.2 (Int32.toNatClampNeg (i + 2))), .int (X.2 (Int32.toNatClampNeg (i + 1))), .ref 61], nc + 3, ns + 18)) (M' := (I, J1, sm_rf t d)) rfl ⟨h1, h2, h3, trivial⟩ ?_
  refine sm_W.cal (sm_C_mono D) (y := 209) (as := [.ref 61, .int (X.2 (Int32.toNatClampNeg (i + 1))), .int (X.2 (Int32.toNatClampNeg (i + 2))), .int (X.2 (Int32.toNatClampNeg (i + 3)))]) (fr' := (240, [some (.ref 1000000), some (.ref 0), some (.ref 61), some (.ref 96), some (.int i), some (.int k), none, none], [], nc + 3, ns + 18)) (st_cv (i := 153) (q := 550) (a := 209) (b := 4) (c := 13) (t := [0, 0, 254]) rfl rfl rfl (by show _ + 0 ≤ 601024; omega) (by show _ + 0 ≤ 7293034; omega) rfl) (T_Mo_row (by omega) e2 ?_)
  show sm_W sm_sh X (sm_C sm_sh X sm_P D) me_304 Q (240, [some (.ref 1000000), some (.ref 0), some (.ref 61), some (.ref 96), some (.int i), some (.int k), none, none], [.int v], nc + 3, ns + 18) (I2, J1, sm_rf t d)
  refine sm_W.run (sm_C_mono D) 2 (G := True) (fr' := (242, [some (.ref 1000000), some (.ref 0), some (.ref 61), some (.ref 96), some (.int i), some (.int k), some (.int v), none], [.ref 61], nc + 3, ns + 18)) (M' := (I2, J1, sm_rf t d)) rfl trivial ?_
  refine sm_W.cal (sm_C_mono D) (y := 157) (as := [.ref 61]) (fr' := (243, [some (.ref 1000000), some (.ref 0), some (.ref 61), some (.ref 96), some (.int i), some (.int k), some (.int v), none], [], nc + 3, ns + 18)) (st_cv (i := 135) (q := 556) (a := 157) (b := 1) (c := 13) (t := [0, 0, 246]) rfl rfl rfl (by show _ + 0 ≤ 601024; omega) (by show _ + 0 ≤ 7293034; omega) rfl) (T_Mo_thrown (by omega) rfl ?_)
  show sm_W sm_sh X (sm_C sm_sh X sm_P D) me_304 Q (243, [some (.ref 1000000), some (.ref 0), some (.ref 61), some (.ref 96), some (.int i), some (.int k), some (.int v), none], [.int (I2 61 0)], nc + 3, ns + 18) (I2, J1, sm_rf t d)
  refine sm_W.run (sm_C_mono D) 2 (G := True) (fr' := (if decide (I2 61 0 = k) = true then 247 else 245, [some (.ref 1000000), some (.ref 0), some (.ref 61), some (.ref 96), some (.int i), some (.int k), some (.int v), none], [], nc + 3, ns + 18)) (M' := (I2, J1, sm_rf t d)) rfl trivial ?_
  rw [if_pos (decide_eq_true e5)]
  refine sm_W.run (sm_C_mono D) 2 (G := True) (fr' := (if decide (¬ k = 0) = true then 258 else 249, [some (.ref 1000000), some (.ref 0), some (.ref 61), some (.ref 96), some (.int i), some (.int k), some (.int v), none], [], nc + 3, ns + 18)) (M' := (I2, J1, sm_rf t d)) rfl trivial ?_
  have fin : sm_W sm_sh X (sm_C sm_sh X sm_P D) me_304 Q (258, [some (.ref 1000000), some (.ref 0), some (.ref 61), some (.ref 96), some (.int i), some (.int k), some (.int v), none], [], nc + 3, ns + 18) (I2, J1, sm_rf t d) := by
    refine sm_W.run (sm_C_mono D) 1 (G := True) (fr' := (1540, [some (.ref 1000000), some (.ref 0), some (.ref 61), some (.ref 96), some (.int i), some (.int k), some (.int v), none], [], nc + 3, ns + 18)) (M' := (I2, J1, sm_rf t d)) rfl trivial ?_
    exact sm_W.forget (L' := [some (.ref 1000000), some (.ref 0), some (.ref 61), some (.ref 96), some (.int i), none, none, none]) ⟨rfl, rfl, rfl, rfl, rfl, trivial⟩ (hK A R t d I2 J1 (nc + 3) (ns + 18) hd e3 (by omega) (by omega))
  by_cases hk : k = 0
  · rw [if_neg (by rw [decide_eq_true_eq]; exact fun z => z hk)]
    have e8 := e6 hk
    refine sm_W.run (sm_C_mono D) 7 (G := sm_in (0 : Int32) 1 = true ∧ True) (fr' := (if decide (lg_cmp (J1 96 0) (Int32.toInt64 v) = 0) = true then 258 else 256, [some (.ref 1000000), some (.ref 0), some (.ref 61), some (.ref 96), some (.int i), some (.int k), some (.int v), none], [], nc + 3, ns + 18)) (M' := (I2, J1, sm_rf t d)) rfl ⟨by decide, trivial⟩ ?_
    rw [if_pos (decide_eq_true (by rw [e8, lg_self]))]
    exact fin
  · rw [if_pos (decide_eq_true hk)]
    exact fin
set_option maxRecDepth 100000 in
theorem K_able {A : sA} {R : Nat → List Nat} {t d D nc ns : Nat} {X : Nat × (Nat → Int32)} {Q : sm_Q} {I : sm_MI} {J : sm_MJ} {i : Int32} (hD : 80 ≤ D) (hd : (t = 21 ∧ d = 41) ∨ (t = 41 ∧ d = 21)) (h : Rel A R t I I) (h1 : sm_in (i + 1) X.1 = true) (h2 : sm_in (i + 2) X.1 = true) (h3 : sm_in (i + 3) X.1 = true) (h4 : sm_in (i + 4) X.1 = true) (h5 : sm_in (i + 5) X.1 = true) (hn : nc + 8 ≤ 601024) (hs : ns + 64 ≤ 7293034)
    (hK : ∀ (A' : sA) (R' : Nat → List Nat) (t' d' : Nat) (I' : sm_MI) (J' : sm_MJ) (nc' ns' : Nat), ((t' = 21 ∧ d' = 41) ∨ (t' = 41 ∧ d' = 21)) → Rel A' R' t' I' I' → nc' ≤ nc + 8 → ns' ≤ ns + 64 → sm_W sm_sh X (sm_C sm_sh X sm_P D) me_304 Q (1540, [some (.ref 1000000), some (.ref 0), some (.ref 61), some (.ref 96), some (.int i), none, none, none], [], nc', ns') (I', J', sm_rf t' d')) : sm_W sm_sh X (sm_C sm_sh X sm_P D) me_304 Q (259, [some (.ref 1000000), some (.ref 0), some (.ref 61), some (.ref 96), some (.int i), none, none, none], [], nc, ns) (I, J, sm_rf t d) := by
  have ht : t = 21 ∨ t = 41 := by omega
  obtain ⟨r, e1, hq⟩ := q_able h (X.2 (Int32.toNatClampNeg (i + 1))) (X.2 (Int32.toNatClampNeg (i + 2)))
  obtain ⟨v, I2, e2, e3, e4⟩ := two0 h hq
  obtain ⟨k, J1, e5, e6⟩ := wr0 (J := J) e1 P_VM_able
  have e7 : F_Law_able t (X.2 (Int32.toNatClampNeg (i + 1))) (X.2 (Int32.toNatClampNeg (i + 2))) I J = some (k, J1) := e5
  obtain ⟨e5, e6⟩ := e6 v I2 e4
  refine sm_W.run (sm_C_mono D) 12 (G := sm_in (i + 1) X.1 = true ∧ sm_in (i + 2) X.1 = true ∧ True) (fr' := (271, [some (.ref 1000000), some (.ref 0), some (.ref 61), some (.ref 96), some (.int i), none, none, none], [.ref 96, .int (X.2 (Int32.toNatClampNeg (i + 2))), .int (X.2 (Int32.toNatClampNeg (i + 1))), .ref 0], nc, ns)) (M' := (I, J, sm_rf t d)) rfl ⟨h1, h2, trivial⟩ ?_
  refine sm_W.cal (sm_C_mono D) (y := 275) (as := [.ref 0, .int (X.2 (Int32.toNatClampNeg (i + 1))), .int (X.2 (Int32.toNatClampNeg (i + 2))), .ref 96]) (fr' := (272, [some (.ref 1000000), some (.ref 0), some (.ref 61), some (.ref 96), some (.int i), none, none, none], [], nc + 2, ns + 12)) (st_cs (i := 154) (q := 600) (a := 275) (b := 4) (t := [2, 12, 255]) rfl rfl rfl (by show _ + 2 ≤ 601024; omega) (by show _ + 12 ≤ 7293034; omega)) (T_Law_able (by omega) ht e7 ?_)
  show sm_W sm_sh X (sm_C sm_sh X sm_P D) me_304 Q (272, [some (.ref 1000000), some (.ref 0), some (.ref 61), some (.ref 96), some (.int i), none, none, none], [.int k], nc + 2, ns + 12) (I, J1, sm_rf t d)
  refine sm_W.run (sm_C_mono D) 1 (G := True) (fr' := (273, [some (.ref 1000000), some (.ref 0), some (.ref 61), some (.ref 96), some (.int i), some (.int k), none, none], [], nc + 2, ns + 12)) (M' := (I, J1, sm_rf t d)) rfl trivial ?_
  refine sm_W.run (sm_C_mono D) 11 (G := sm_in (i + 1) X.1 = true ∧ sm_in (i + 2) X.1 = true ∧ True) (fr' := (284, [some (.ref 1000000), some (.ref 0), some (.ref 61), some (.ref 96), some (.int i), some (.int k), none, none], [.int (X.2 (Int32.toNatClampNeg (i + 2))), .int (X.2 (Int32.toNatClampNeg (i + 1))), .ref 61], nc + 2, ns + 12)) (M' := (I, J1, sm_rf t d)) rfl ⟨h1, h2, trivial⟩ ?_
  refine sm_W.cal (sm_C_mono D) (y := 210) (as := [.ref 61, .int (X.2 (Int32.toNatClampNeg (i + 1))), .int (X.2 (Int32.toNatClampNeg (i + 2)))]) (fr' := (285, [some (.ref 1000000), some (.ref 0), some (.ref 61), some (.ref 96), some (.int i), some (.int k), none, none], [], nc + 2, ns + 12)) (st_cv (i := 156) (q := 618) (a := 210) (b := 3) (c := 13) (t := [0, 0, 256]) rfl rfl rfl (by show _ + 0 ≤ 601024; omega) (by show _ + 0 ≤ 7293034; omega) rfl) (T_Mo_able (by omega) e2 ?_)
  show sm_W sm_sh X (sm_C sm_sh X sm_P D) me_304 Q (285, [some (.ref 1000000), some (.ref 0), some (.ref 61), some (.ref 96), some (.int i), some (.int k), none, none], [.int v], nc + 2, ns + 12) (I2, J1, sm_rf t d)
  refine sm_W.run (sm_C_mono D) 2 (G := True) (fr' := (287, [some (.ref 1000000), some (.ref 0), some (.ref 61), some (.ref 96), some (.int i), some (.int k), some (.int v), none], [.ref 61], nc + 2, ns + 12)) (M' := (I2, J1, sm_rf t d)) rfl trivial ?_
  refine sm_W.cal (sm_C_mono D) (y := 157) (as := [.ref 61]) (fr' := (288, [some (.ref 1000000), some (.ref 0), some (.ref 61), some (.ref 96), some (.int i), some (.int k), some (.int v), none], [], nc + 2, ns + 12)) (st_cv (i := 135) (q := 624) (a := 157) (b := 1) (c := 13) (t := [0, 0, 246]) rfl rfl rfl (by show _ + 0 ≤ 601024; omega) (by show _ + 0 ≤ 7293034; omega) rfl) (T_Mo_thrown (by omega) rfl ?_)
  show sm_W sm_sh X (sm_C sm_sh X sm_P D) me_304 Q (288, [some (.ref 1000000), some (.ref 0), some (.ref 61), some (.ref 96), some (.int i), some (.int k), some (.int v), none], [.int (I2 61 0)], nc + 2, ns + 12) (I2, J1, sm_rf t d)
  refine sm_W.run (sm_C_mono D) 2 (G := True) (fr' := (if decide (I2 61 0 = k) = true then 292 else 290, [some (.ref 1000000), some (.ref 0), some (.ref 61), some (.ref 96), some (.int i), some (.int k), some (.int v), none], [], nc + 2, ns + 12)) (M' := (I2, J1, sm_rf t d)) rfl trivial ?_
  rw [if_pos (decide_eq_true e5)]
  refine sm_W.run (sm_C_mono D) 2 (G := True) (fr' := (if decide (¬ k = 0) = true then 303 else 294, [some (.ref 1000000), some (.ref 0), some (.ref 61), some (.ref 96), some (.int i), some (.int k), some (.int v), none], [], nc + 2, ns + 12)) (M' := (I2, J1, sm_rf t d)) rfl trivial ?_
  have fin : sm_W sm_sh X (sm_C sm_sh X sm_P D) me_304 Q (303, [some (.ref 1000000), some (.ref 0), some (.ref 61), some (.ref 96), some (.int i), some (.int k), some (.int v), none], [], nc + 2, ns + 12) (I2, J1, sm_rf t d) := by
    refine sm_W.run (sm_C_mono D) 1 (G := True) (fr' := (1540, [some (.ref 1000000), some (.ref 0), some (.ref 61), some (.ref 96), some (.int i), some (.int k), some (.int v), none], [], nc + 2, ns + 12)) (M' := (I2, J1, sm_rf t d)) rfl trivial ?_
    exact sm_W.forget (L' := [some (.ref 1000000), some (.ref 0), some (.ref 61), some (.ref 96), some (.int i), none, none, none]) ⟨rfl, rfl, rfl, rfl, rfl, trivial⟩ (hK A R t d I2 J1 (nc + 2) (ns + 12) hd e3 (by omega) (by omega))
  by_cases hk : k = 0
  · rw [if_neg (by rw [decide_eq_true_eq]; exact fun z => z hk)]
    have e8 := e6 hk
    refine sm_W.run (sm_C_mono D) 7 (G := sm_in (0 : Int32) 1 = true ∧ True) (fr' := (if decide (lg_cmp (J1 96 0) (Int32.toInt64 v) = 0) = true then 303 else 301, [some (.ref 1000000), some (.ref 0), some (.ref 61), some (.ref 96), some (.int i), some (.int k), some (.int v), none], [], nc + 2, ns + 12)) (M' := (I2, J1, sm_rf t d)) rfl ⟨by decide, trivial⟩ ?_
    rw [if_pos (decide_eq_true (by rw [e8, lg_self]))]
    exact fin
  · rw [if_pos (decide_eq_true hk)]
    exact fin
set_option maxRecDepth 100000 in
theorem K_days {A : sA} {R : Nat → List Nat} {t d D nc ns : Nat} {X : Nat × (Nat → Int32)} {Q : sm_Q} {I : sm_MI} {J : sm_MJ} {i : Int32} (hD : 80 ≤ D) (hd : (t = 21 ∧ d = 41) ∨ (t = 41 ∧ d = 21)) (h : Rel A R t I I) (h1 : sm_in (i + 1) X.1 = true) (h2 : sm_in (i + 2) X.1 = true) (h3 : sm_in (i + 3) X.1 = true) (h4 : sm_in (i + 4) X.1 = true) (h5 : sm_in (i + 5) X.1 = true) (hn : nc + 8 ≤ 601024) (hs : ns + 64 ≤ 7293034)
    (hK : ∀ (A' : sA) (R' : Nat → List Nat) (t' d' : Nat) (I' : sm_MI) (J' : sm_MJ) (nc' ns' : Nat), ((t' = 21 ∧ d' = 41) ∨ (t' = 41 ∧ d' = 21)) → Rel A' R' t' I' I' → nc' ≤ nc + 8 → ns' ≤ ns + 64 → sm_W sm_sh X (sm_C sm_sh X sm_P D) me_304 Q (1540, [some (.ref 1000000), some (.ref 0), some (.ref 61), some (.ref 96), some (.int i), none, none, none], [], nc', ns') (I', J', sm_rf t' d')) : sm_W sm_sh X (sm_C sm_sh X sm_P D) me_304 Q (304, [some (.ref 1000000), some (.ref 0), some (.ref 61), some (.ref 96), some (.int i), none, none, none], [], nc, ns) (I, J, sm_rf t d) := by
  have ht : t = 21 ∨ t = 41 := by omega
  obtain ⟨r, I1, v, I2, e1, e2, e3, e4⟩ := twoA (G := fun M => F_Mo_days (X.2 (Int32.toNatClampNeg (i + 1))) M) h (fun M hM => x_days hM (X.2 (Int32.toNatClampNeg (i + 1))))
  have e9 : v = r := e4.1
  subst e9
  refine sm_W.run (sm_C_mono D) 6 (G := sm_in (i + 1) X.1 = true ∧ True) (fr' := (310, [some (.ref 1000000), some (.ref 0), some (.ref 61), some (.ref 96), some (.int i), none, none, none], [.int (X.2 (Int32.toNatClampNeg (i + 1))), .ref 0], nc, ns)) (M' := (I, J, sm_rf t d)) rfl ⟨h1, trivial⟩ ?_
  refine sm_W.cal (sm_C_mono D) (y := 113) (as := [.ref 0, .int (X.2 (Int32.toNatClampNeg (i + 1)))]) (fr' := (311, [some (.ref 1000000), some (.ref 0), some (.ref 61), some (.ref 96), some (.int i), none, none, none], [], nc, ns)) (st_cv (i := 157) (q := 661) (a := 113) (b := 2) (c := 12) (t := [0, 0, 257]) rfl rfl rfl (by show _ + 0 ≤ 601024; omega) (by show _ + 0 ≤ 7293034; omega) rfl) (T_VM_days (by omega) ht e1 ?_)
  show sm_W sm_sh X (sm_C sm_sh X sm_P D) me_304 Q (311, [some (.ref 1000000), some (.ref 0), some (.ref 61), some (.ref 96), some (.int i), none, none, none], [.int v], nc, ns) (I1, J, sm_rf t d)
  refine sm_W.run (sm_C_mono D) 6 (G := sm_in (i + 1) X.1 = true ∧ True) (fr' := (317, [some (.ref 1000000), some (.ref 0), some (.ref 61), some (.ref 96), some (.int i), none, none, none], [.int (X.2 (Int32.toNatClampNeg (i + 1))), .ref 61, .int v], nc, ns)) (M' := (I1, J, sm_rf t d)) rfl ⟨h1, trivial⟩ ?_
  refine sm_W.cal (sm_C_mono D) (y := 217) (as := [.ref 61, .int (X.2 (Int32.toNatClampNeg (i + 1)))]) (fr' := (318, [some (.ref 1000000), some (.ref 0), some (.ref 61), some (.ref 96), some (.int i), none, none, none], [.int v], nc, ns)) (st_cv (i := 160) (q := 671) (a := 217) (b := 2) (c := 13) (t := [0, 0, 258]) rfl rfl rfl (by show _ + 0 ≤ 601024; omega) (by show _ + 0 ≤ 7293034; omega) rfl) (T_Mo_days (by omega) e2 ?_)
  show sm_W sm_sh X (sm_C sm_sh X sm_P D) me_304 Q (318, [some (.ref 1000000), some (.ref 0), some (.ref 61), some (.ref 96), some (.int i), none, none, none], [.int v, .int v], nc, ns) (I2, J, sm_rf t d)
  refine sm_W.run (sm_C_mono D) 1 (G := True) (fr' := (if decide (v = v) = true then 1540 else 319, [some (.ref 1000000), some (.ref 0), some (.ref 61), some (.ref 96), some (.int i), none, none, none], [], nc, ns)) (M' := (I2, J, sm_rf t d)) rfl trivial ?_
  rw [if_pos (decide_eq_true rfl)]
  exact hK A R t d I2 J nc ns hd e3 (by omega) (by omega)
set_option maxRecDepth 100000 in
theorem K_fall {A : sA} {R : Nat → List Nat} {t d D nc ns : Nat} {X : Nat × (Nat → Int32)} {Q : sm_Q} {I : sm_MI} {J : sm_MJ} {i : Int32} (hD : 80 ≤ D) (hd : (t = 21 ∧ d = 41) ∨ (t = 41 ∧ d = 21)) (h : Rel A R t I I) (h1 : sm_in (i + 1) X.1 = true) (h2 : sm_in (i + 2) X.1 = true) (h3 : sm_in (i + 3) X.1 = true) (h4 : sm_in (i + 4) X.1 = true) (h5 : sm_in (i + 5) X.1 = true) (hn : nc + 8 ≤ 601024) (hs : ns + 64 ≤ 7293034)
    (hK : ∀ (A' : sA) (R' : Nat → List Nat) (t' d' : Nat) (I' : sm_MI) (J' : sm_MJ) (nc' ns' : Nat), ((t' = 21 ∧ d' = 41) ∨ (t' = 41 ∧ d' = 21)) → Rel A' R' t' I' I' → nc' ≤ nc + 8 → ns' ≤ ns + 64 → sm_W sm_sh X (sm_C sm_sh X sm_P D) me_304 Q (1540, [some (.ref 1000000), some (.ref 0), some (.ref 61), some (.ref 96), some (.int i), none, none, none], [], nc', ns') (I', J', sm_rf t' d')) : sm_W sm_sh X (sm_C sm_sh X sm_P D) me_304 Q (321, [some (.ref 1000000), some (.ref 0), some (.ref 61), some (.ref 96), some (.int i), none, none, none], [], nc, ns) (I, J, sm_rf t d) := by
  have ht : t = 21 ∨ t = 41 := by omega
  obtain ⟨r, I1, v, I2, e1, e2, e3, e4⟩ := twoA (G := fun M => F_Mo_fall (X.2 (Int32.toNatClampNeg (i + 1))) M) h (fun M hM => x_fall hM (X.2 (Int32.toNatClampNeg (i + 1))))
  obtain ⟨k, J1, e5, e6⟩ := wr1b (J := J) e1 P_VM_fall
  have e7 : F_Law_fall t (X.2 (Int32.toNatClampNeg (i + 1))) I J = some (k, I1, J1) := e5
  obtain ⟨e5, e6⟩ := e6 v I2 e4
  refine sm_W.run (sm_C_mono D) 7 (G := sm_in (i + 1) X.1 = true ∧ True) (fr' := (328, [some (.ref 1000000), some (.ref 0), some (.ref 61), some (.ref 96), some (.int i), none, none, none], [.ref 96, .int (X.2 (Int32.toNatClampNeg (i + 1))), .ref 0], nc, ns)) (M' := (I, J, sm_rf t d)) rfl ⟨h1, trivial⟩ ?_
  refine sm_W.cal (sm_C_mono D) (y := 276) (as := [.ref 0, .int (X.2 (Int32.toNatClampNeg (i + 1))), .ref 96]) (fr' := (329, [some (.ref 1000000), some (.ref 0), some (.ref 61), some (.ref 96), some (.int i), none, none, none], [], nc + 1, ns + 6)) (st_cs (i := 161) (q := 687) (a := 276) (b := 3) (t := [1, 6, 259]) rfl rfl rfl (by show _ + 1 ≤ 601024; omega) (by show _ + 6 ≤ 7293034; omega)) (T_Law_fall (by omega) ht e7 ?_)
  show sm_W sm_sh X (sm_C sm_sh X sm_P D) me_304 Q (329, [some (.ref 1000000), some (.ref 0), some (.ref 61), some (.ref 96), some (.int i), none, none, none], [.int k], nc + 1, ns + 6) (I1, J1, sm_rf t d)
  refine sm_W.run (sm_C_mono D) 1 (G := True) (fr' := (330, [some (.ref 1000000), some (.ref 0), some (.ref 61), some (.ref 96), some (.int i), some (.int k), none, none], [], nc + 1, ns + 6)) (M' := (I1, J1, sm_rf t d)) rfl trivial ?_
  refine sm_W.run (sm_C_mono D) 6 (G := sm_in (i + 1) X.1 = true ∧ True) (fr' := (336, [some (.ref 1000000), some (.ref 0), some (.ref 61), some (.ref 96), some (.int i), some (.int k), none, none], [.int (X.2 (Int32.toNatClampNeg (i + 1))), .ref 61], nc + 1, ns + 6)) (M' := (I1, J1, sm_rf t d)) rfl ⟨h1, trivial⟩ ?_
  refine sm_W.cal (sm_C_mono D) (y := 219) (as := [.ref 61, .int (X.2 (Int32.toNatClampNeg (i + 1)))]) (fr' := (337, [some (.ref 1000000), some (.ref 0), some (.ref 61), some (.ref 96), some (.int i), some (.int k), none, none], [], nc + 1, ns + 6)) (st_cv (i := 163) (q := 699) (a := 219) (b := 2) (c := 13) (t := [0, 0, 260]) rfl rfl rfl (by show _ + 0 ≤ 601024; omega) (by show _ + 0 ≤ 7293034; omega) rfl) (T_Mo_fall (by omega) e2 ?_)
  show sm_W sm_sh X (sm_C sm_sh X sm_P D) me_304 Q (337, [some (.ref 1000000), some (.ref 0), some (.ref 61), some (.ref 96), some (.int i), some (.int k), none, none], [.int v], nc + 1, ns + 6) (I2, J1, sm_rf t d)
  refine sm_W.run (sm_C_mono D) 2 (G := True) (fr' := (339, [some (.ref 1000000), some (.ref 0), some (.ref 61), some (.ref 96), some (.int i), some (.int k), some (.int v), none], [.ref 61], nc + 1, ns + 6)) (M' := (I2, J1, sm_rf t d)) rfl trivial ?_
  refine sm_W.cal (sm_C_mono D) (y := 157) (as := [.ref 61]) (fr' := (340, [some (.ref 1000000), some (.ref 0), some (.ref 61), some (.ref 96), some (.int i), some (.int k), some (.int v), none], [], nc + 1, ns + 6)) (st_cv (i := 135) (q := 705) (a := 157) (b := 1) (c := 13) (t := [0, 0, 246]) rfl rfl rfl (by show _ + 0 ≤ 601024; omega) (by show _ + 0 ≤ 7293034; omega) rfl) (T_Mo_thrown (by omega) rfl ?_)
  show sm_W sm_sh X (sm_C sm_sh X sm_P D) me_304 Q (340, [some (.ref 1000000), some (.ref 0), some (.ref 61), some (.ref 96), some (.int i), some (.int k), some (.int v), none], [.int (I2 61 0)], nc + 1, ns + 6) (I2, J1, sm_rf t d)
  refine sm_W.run (sm_C_mono D) 2 (G := True) (fr' := (if decide (I2 61 0 = k) = true then 344 else 342, [some (.ref 1000000), some (.ref 0), some (.ref 61), some (.ref 96), some (.int i), some (.int k), some (.int v), none], [], nc + 1, ns + 6)) (M' := (I2, J1, sm_rf t d)) rfl trivial ?_
  rw [if_pos (decide_eq_true e5)]
  refine sm_W.run (sm_C_mono D) 2 (G := True) (fr' := (if decide (¬ k = 0) = true then 358 else 346, [some (.ref 1000000), some (.ref 0), some (.ref 61), some (.ref 96), some (.int i), some (.int k), some (.int v), none], [], nc + 1, ns + 6)) (M' := (I2, J1, sm_rf t d)) rfl trivial ?_
  have fin : sm_W sm_sh X (sm_C sm_sh X sm_P D) me_304 Q (358, [some (.ref 1000000), some (.ref 0), some (.ref 61), some (.ref 96), some (.int i), some (.int k), some (.int v), none], [], nc + 1, ns + 6) (I2, J1, sm_rf t d) := by
    refine sm_W.run (sm_C_mono D) 1 (G := True) (fr' := (1540, [some (.ref 1000000), some (.ref 0), some (.ref 61), some (.ref 96), some (.int i), some (.int k), some (.int v), none], [], nc + 1, ns + 6)) (M' := (I2, J1, sm_rf t d)) rfl trivial ?_
    exact sm_W.forget (L' := [some (.ref 1000000), some (.ref 0), some (.ref 61), some (.ref 96), some (.int i), none, none, none]) ⟨rfl, rfl, rfl, rfl, rfl, trivial⟩ (hK A R t d I2 J1 (nc + 1) (ns + 6) hd e3 (by omega) (by omega))
  by_cases hk : k = 0
  · rw [if_neg (by rw [decide_eq_true_eq]; exact fun z => z hk)]
    have e8 := e6 hk
    refine sm_W.run (sm_C_mono D) 5 (G := sm_in (0 : Int32) 1 = true ∧ True) (fr' := (if decide (v = 0) = true then 353 else 351, [some (.ref 1000000), some (.ref 0), some (.ref 61), some (.ref 96), some (.int i), some (.int k), some (.int v), none], [.long (J1 96 0)], nc + 1, ns + 6)) (M' := (I2, J1, sm_rf t d)) rfl ⟨by decide, trivial⟩ ?_
    by_cases hv : v = 0
    · rw [if_pos (decide_eq_true hv)]
      refine sm_W.run (sm_C_mono D) 3 (G := True) (fr' := (if decide (lg_cmp (J1 96 0) (0 : Int64) = 0) = true then 358 else 356, [some (.ref 1000000), some (.ref 0), some (.ref 61), some (.ref 96), some (.int i), some (.int k), some (.int v), none], [], nc + 1, ns + 6)) (M' := (I2, J1, sm_rf t d)) rfl trivial ?_
      rw [if_pos (decide_eq_true (by rw [e8, if_pos hv, lg_self]))]
      exact fin
    · rw [if_neg (by rw [decide_eq_true_eq]; exact hv)]
      refine sm_W.run (sm_C_mono D) 4 (G := True) (fr' := (if decide (lg_cmp (J1 96 0) (1 : Int64) = 0) = true then 358 else 356, [some (.ref 1000000), some (.ref 0), some (.ref 61), some (.ref 96), some (.int i), some (.int k), some (.int v), none], [], nc + 1, ns + 6)) (M' := (I2, J1, sm_rf t d)) rfl trivial ?_
      rw [if_pos (decide_eq_true (by rw [e8, if_neg hv, lg_self]))]
      exact fin
  · rw [if_pos (decide_eq_true hk)]
    exact fin
set_option maxRecDepth 100000 in
theorem K_catches {A : sA} {R : Nat → List Nat} {t d D nc ns : Nat} {X : Nat × (Nat → Int32)} {Q : sm_Q} {I : sm_MI} {J : sm_MJ} {i : Int32} (hD : 80 ≤ D) (hd : (t = 21 ∧ d = 41) ∨ (t = 41 ∧ d = 21)) (h : Rel A R t I I) (h1 : sm_in (i + 1) X.1 = true) (h2 : sm_in (i + 2) X.1 = true) (h3 : sm_in (i + 3) X.1 = true) (h4 : sm_in (i + 4) X.1 = true) (h5 : sm_in (i + 5) X.1 = true) (hn : nc + 8 ≤ 601024) (hs : ns + 64 ≤ 7293034)
    (hK : ∀ (A' : sA) (R' : Nat → List Nat) (t' d' : Nat) (I' : sm_MI) (J' : sm_MJ) (nc' ns' : Nat), ((t' = 21 ∧ d' = 41) ∨ (t' = 41 ∧ d' = 21)) → Rel A' R' t' I' I' → nc' ≤ nc + 8 → ns' ≤ ns + 64 → sm_W sm_sh X (sm_C sm_sh X sm_P D) me_304 Q (1540, [some (.ref 1000000), some (.ref 0), some (.ref 61), some (.ref 96), some (.int i), none, none, none], [], nc', ns') (I', J', sm_rf t' d')) : sm_W sm_sh X (sm_C sm_sh X sm_P D) me_304 Q (359, [some (.ref 1000000), some (.ref 0), some (.ref 61), some (.ref 96), some (.int i), none, none, none], [], nc, ns) (I, J, sm_rf t d) := by
  have ht : t = 21 ∨ t = 41 := by omega
  obtain ⟨r, I1, v, I2, e1, e2, e3, e4⟩ := twoA (G := fun M => F_Mo_catches (X.2 (Int32.toNatClampNeg (i + 1))) M) h (fun M hM => x_catches hM (X.2 (Int32.toNatClampNeg (i + 1))))
  obtain ⟨k, J1, e5, e6⟩ := wr1b (J := J) e1 P_VM_catches
  have e7 : F_Law_catches t (X.2 (Int32.toNatClampNeg (i + 1))) I J = some (k, I1, J1) := e5
  obtain ⟨e5, e6⟩ := e6 v I2 e4
  refine sm_W.run (sm_C_mono D) 7 (G := sm_in (i + 1) X.1 = true ∧ True) (fr' := (366, [some (.ref 1000000), some (.ref 0), some (.ref 61), some (.ref 96), some (.int i), none, none, none], [.ref 96, .int (X.2 (Int32.toNatClampNeg (i + 1))), .ref 0], nc, ns)) (M' := (I, J, sm_rf t d)) rfl ⟨h1, trivial⟩ ?_
  refine sm_W.cal (sm_C_mono D) (y := 277) (as := [.ref 0, .int (X.2 (Int32.toNatClampNeg (i + 1))), .ref 96]) (fr' := (367, [some (.ref 1000000), some (.ref 0), some (.ref 61), some (.ref 96), some (.int i), none, none, none], [], nc + 1, ns + 6)) (st_cs (i := 164) (q := 750) (a := 277) (b := 3) (t := [1, 6, 261]) rfl rfl rfl (by show _ + 1 ≤ 601024; omega) (by show _ + 6 ≤ 7293034; omega)) (T_Law_catches (by omega) ht e7 ?_)
  show sm_W sm_sh X (sm_C sm_sh X sm_P D) me_304 Q (367, [some (.ref 1000000), some (.ref 0), some (.ref 61), some (.ref 96), some (.int i), none, none, none], [.int k], nc + 1, ns + 6) (I1, J1, sm_rf t d)
  refine sm_W.run (sm_C_mono D) 1 (G := True) (fr' := (368, [some (.ref 1000000), some (.ref 0), some (.ref 61), some (.ref 96), some (.int i), some (.int k), none, none], [], nc + 1, ns + 6)) (M' := (I1, J1, sm_rf t d)) rfl trivial ?_
  refine sm_W.run (sm_C_mono D) 6 (G := sm_in (i + 1) X.1 = true ∧ True) (fr' := (374, [some (.ref 1000000), some (.ref 0), some (.ref 61), some (.ref 96), some (.int i), some (.int k), none, none], [.int (X.2 (Int32.toNatClampNeg (i + 1))), .ref 61], nc + 1, ns + 6)) (M' := (I1, J1, sm_rf t d)) rfl ⟨h1, trivial⟩ ?_
  refine sm_W.cal (sm_C_mono D) (y := 220) (as := [.ref 61, .int (X.2 (Int32.toNatClampNeg (i + 1)))]) (fr' := (375, [some (.ref 1000000), some (.ref 0), some (.ref 61), some (.ref 96), some (.int i), some (.int k), none, none], [], nc + 1, ns + 6)) (st_cv (i := 166) (q := 762) (a := 220) (b := 2) (c := 13) (t := [0, 0, 262]) rfl rfl rfl (by show _ + 0 ≤ 601024; omega) (by show _ + 0 ≤ 7293034; omega) rfl) (T_Mo_catches (by omega) e2 ?_)
  show sm_W sm_sh X (sm_C sm_sh X sm_P D) me_304 Q (375, [some (.ref 1000000), some (.ref 0), some (.ref 61), some (.ref 96), some (.int i), some (.int k), none, none], [.int v], nc + 1, ns + 6) (I2, J1, sm_rf t d)
  refine sm_W.run (sm_C_mono D) 2 (G := True) (fr' := (377, [some (.ref 1000000), some (.ref 0), some (.ref 61), some (.ref 96), some (.int i), some (.int k), some (.int v), none], [.ref 61], nc + 1, ns + 6)) (M' := (I2, J1, sm_rf t d)) rfl trivial ?_
  refine sm_W.cal (sm_C_mono D) (y := 157) (as := [.ref 61]) (fr' := (378, [some (.ref 1000000), some (.ref 0), some (.ref 61), some (.ref 96), some (.int i), some (.int k), some (.int v), none], [], nc + 1, ns + 6)) (st_cv (i := 135) (q := 768) (a := 157) (b := 1) (c := 13) (t := [0, 0, 246]) rfl rfl rfl (by show _ + 0 ≤ 601024; omega) (by show _ + 0 ≤ 7293034; omega) rfl) (T_Mo_thrown (by omega) rfl ?_)
  show sm_W sm_sh X (sm_C sm_sh X sm_P D) me_304 Q (378, [some (.ref 1000000), some (.ref 0), some (.ref 61), some (.ref 96), some (.int i), some (.int k), some (.int v), none], [.int (I2 61 0)], nc + 1, ns + 6) (I2, J1, sm_rf t d)
  refine sm_W.run (sm_C_mono D) 2 (G := True) (fr' := (if decide (I2 61 0 = k) = true then 382 else 380, [some (.ref 1000000), some (.ref 0), some (.ref 61), some (.ref 96), some (.int i), some (.int k), some (.int v), none], [], nc + 1, ns + 6)) (M' := (I2, J1, sm_rf t d)) rfl trivial ?_
  rw [if_pos (decide_eq_true e5)]
  refine sm_W.run (sm_C_mono D) 2 (G := True) (fr' := (if decide (¬ k = 0) = true then 396 else 384, [some (.ref 1000000), some (.ref 0), some (.ref 61), some (.ref 96), some (.int i), some (.int k), some (.int v), none], [], nc + 1, ns + 6)) (M' := (I2, J1, sm_rf t d)) rfl trivial ?_
  have fin : sm_W sm_sh X (sm_C sm_sh X sm_P D) me_304 Q (396, [some (.ref 1000000), some (.ref 0), some (.ref 61), some (.ref 96), some (.int i), some (.int k), some (.int v), none], [], nc + 1, ns + 6) (I2, J1, sm_rf t d) := by
    refine sm_W.run (sm_C_mono D) 1 (G := True) (fr' := (1540, [some (.ref 1000000), some (.ref 0), some (.ref 61), some (.ref 96), some (.int i), some (.int k), some (.int v), none], [], nc + 1, ns + 6)) (M' := (I2, J1, sm_rf t d)) rfl trivial ?_
    exact sm_W.forget (L' := [some (.ref 1000000), some (.ref 0), some (.ref 61), some (.ref 96), some (.int i), none, none, none]) ⟨rfl, rfl, rfl, rfl, rfl, trivial⟩ (hK A R t d I2 J1 (nc + 1) (ns + 6) hd e3 (by omega) (by omega))
  by_cases hk : k = 0
  · rw [if_neg (by rw [decide_eq_true_eq]; exact fun z => z hk)]
    have e8 := e6 hk
    refine sm_W.run (sm_C_mono D) 5 (G := sm_in (0 : Int32) 1 = true ∧ True) (fr' := (if decide (v = 0) = true then 391 else 389, [some (.ref 1000000), some (.ref 0), some (.ref 61), some (.ref 96), some (.int i), some (.int k), some (.int v), none], [.long (J1 96 0)], nc + 1, ns + 6)) (M' := (I2, J1, sm_rf t d)) rfl ⟨by decide, trivial⟩ ?_
    by_cases hv : v = 0
    · rw [if_pos (decide_eq_true hv)]
      refine sm_W.run (sm_C_mono D) 3 (G := True) (fr' := (if decide (lg_cmp (J1 96 0) (0 : Int64) = 0) = true then 396 else 394, [some (.ref 1000000), some (.ref 0), some (.ref 61), some (.ref 96), some (.int i), some (.int k), some (.int v), none], [], nc + 1, ns + 6)) (M' := (I2, J1, sm_rf t d)) rfl trivial ?_
      rw [if_pos (decide_eq_true (by rw [e8, if_pos hv, lg_self]))]
      exact fin
    · rw [if_neg (by rw [decide_eq_true_eq]; exact hv)]
      refine sm_W.run (sm_C_mono D) 4 (G := True) (fr' := (if decide (lg_cmp (J1 96 0) (1 : Int64) = 0) = true then 396 else 394, [some (.ref 1000000), some (.ref 0), some (.ref 61), some (.ref 96), some (.int i), some (.int k), some (.int v), none], [], nc + 1, ns + 6)) (M' := (I2, J1, sm_rf t d)) rfl trivial ?_
      rw [if_pos (decide_eq_true (by rw [e8, if_neg hv, lg_self]))]
      exact fin
  · rw [if_pos (decide_eq_true hk)]
    exact fin
set_option maxRecDepth 100000 in
theorem K_release {A : sA} {R : Nat → List Nat} {t d D nc ns : Nat} {X : Nat × (Nat → Int32)} {Q : sm_Q} {I : sm_MI} {J : sm_MJ} {i : Int32} (hD : 80 ≤ D) (hd : (t = 21 ∧ d = 41) ∨ (t = 41 ∧ d = 21)) (h : Rel A R t I I) (h1 : sm_in (i + 1) X.1 = true) (h2 : sm_in (i + 2) X.1 = true) (h3 : sm_in (i + 3) X.1 = true) (h4 : sm_in (i + 4) X.1 = true) (h5 : sm_in (i + 5) X.1 = true) (hn : nc + 8 ≤ 601024) (hs : ns + 64 ≤ 7293034)
    (hK : ∀ (A' : sA) (R' : Nat → List Nat) (t' d' : Nat) (I' : sm_MI) (J' : sm_MJ) (nc' ns' : Nat), ((t' = 21 ∧ d' = 41) ∨ (t' = 41 ∧ d' = 21)) → Rel A' R' t' I' I' → nc' ≤ nc + 8 → ns' ≤ ns + 64 → sm_W sm_sh X (sm_C sm_sh X sm_P D) me_304 Q (1540, [some (.ref 1000000), some (.ref 0), some (.ref 61), some (.ref 96), some (.int i), none, none, none], [], nc', ns') (I', J', sm_rf t' d')) : sm_W sm_sh X (sm_C sm_sh X sm_P D) me_304 Q (397, [some (.ref 1000000), some (.ref 0), some (.ref 61), some (.ref 96), some (.int i), none, none, none], [], nc, ns) (I, J, sm_rf t d) := by
  have ht : t = 21 ∨ t = 41 := by omega
  obtain ⟨r, I1, v, I2, e1, e2, e3, e4⟩ := twoA (G := fun M => F_Mo_release (X.2 (Int32.toNatClampNeg (i + 1))) M) h (fun M hM => x_release hM (X.2 (Int32.toNatClampNeg (i + 1))))
  obtain ⟨k, J1, e5, e6⟩ := wr1b (J := J) e1 P_VM_release
  have e7 : F_Law_release t (X.2 (Int32.toNatClampNeg (i + 1))) I J = some (k, I1, J1) := e5
  obtain ⟨e5, e6⟩ := e6 v I2 e4
  refine sm_W.run (sm_C_mono D) 7 (G := sm_in (i + 1) X.1 = true ∧ True) (fr' := (404, [some (.ref 1000000), some (.ref 0), some (.ref 61), some (.ref 96), some (.int i), none, none, none], [.ref 96, .int (X.2 (Int32.toNatClampNeg (i + 1))), .ref 0], nc, ns)) (M' := (I, J, sm_rf t d)) rfl ⟨h1, trivial⟩ ?_
  refine sm_W.cal (sm_C_mono D) (y := 278) (as := [.ref 0, .int (X.2 (Int32.toNatClampNeg (i + 1))), .ref 96]) (fr' := (405, [some (.ref 1000000), some (.ref 0), some (.ref 61), some (.ref 96), some (.int i), none, none, none], [], nc + 1, ns + 6)) (st_cs (i := 167) (q := 813) (a := 278) (b := 3) (t := [1, 6, 263]) rfl rfl rfl (by show _ + 1 ≤ 601024; omega) (by show _ + 6 ≤ 7293034; omega)) (T_Law_release (by omega) ht e7 ?_)
  show sm_W sm_sh X (sm_C sm_sh X sm_P D) me_304 Q (405, [some (.ref 1000000), some (.ref 0), some (.ref 61), some (.ref 96), some (.int i), none, none, none], [.int k], nc + 1, ns + 6) (I1, J1, sm_rf t d)
  refine sm_W.run (sm_C_mono D) 1 (G := True) (fr' := (406, [some (.ref 1000000), some (.ref 0), some (.ref 61), some (.ref 96), some (.int i), some (.int k), none, none], [], nc + 1, ns + 6)) (M' := (I1, J1, sm_rf t d)) rfl trivial ?_
  refine sm_W.run (sm_C_mono D) 6 (G := sm_in (i + 1) X.1 = true ∧ True) (fr' := (412, [some (.ref 1000000), some (.ref 0), some (.ref 61), some (.ref 96), some (.int i), some (.int k), none, none], [.int (X.2 (Int32.toNatClampNeg (i + 1))), .ref 61], nc + 1, ns + 6)) (M' := (I1, J1, sm_rf t d)) rfl ⟨h1, trivial⟩ ?_
  refine sm_W.cal (sm_C_mono D) (y := 221) (as := [.ref 61, .int (X.2 (Int32.toNatClampNeg (i + 1)))]) (fr' := (413, [some (.ref 1000000), some (.ref 0), some (.ref 61), some (.ref 96), some (.int i), some (.int k), none, none], [], nc + 1, ns + 6)) (st_cv (i := 169) (q := 825) (a := 221) (b := 2) (c := 13) (t := [0, 0, 264]) rfl rfl rfl (by show _ + 0 ≤ 601024; omega) (by show _ + 0 ≤ 7293034; omega) rfl) (T_Mo_release (by omega) e2 ?_)
  show sm_W sm_sh X (sm_C sm_sh X sm_P D) me_304 Q (413, [some (.ref 1000000), some (.ref 0), some (.ref 61), some (.ref 96), some (.int i), some (.int k), none, none], [.int v], nc + 1, ns + 6) (I2, J1, sm_rf t d)
  refine sm_W.run (sm_C_mono D) 2 (G := True) (fr' := (415, [some (.ref 1000000), some (.ref 0), some (.ref 61), some (.ref 96), some (.int i), some (.int k), some (.int v), none], [.ref 61], nc + 1, ns + 6)) (M' := (I2, J1, sm_rf t d)) rfl trivial ?_
  refine sm_W.cal (sm_C_mono D) (y := 157) (as := [.ref 61]) (fr' := (416, [some (.ref 1000000), some (.ref 0), some (.ref 61), some (.ref 96), some (.int i), some (.int k), some (.int v), none], [], nc + 1, ns + 6)) (st_cv (i := 135) (q := 831) (a := 157) (b := 1) (c := 13) (t := [0, 0, 246]) rfl rfl rfl (by show _ + 0 ≤ 601024; omega) (by show _ + 0 ≤ 7293034; omega) rfl) (T_Mo_thrown (by omega) rfl ?_)
  show sm_W sm_sh X (sm_C sm_sh X sm_P D) me_304 Q (416, [some (.ref 1000000), some (.ref 0), some (.ref 61), some (.ref 96), some (.int i), some (.int k), some (.int v), none], [.int (I2 61 0)], nc + 1, ns + 6) (I2, J1, sm_rf t d)
  refine sm_W.run (sm_C_mono D) 2 (G := True) (fr' := (if decide (I2 61 0 = k) = true then 420 else 418, [some (.ref 1000000), some (.ref 0), some (.ref 61), some (.ref 96), some (.int i), some (.int k), some (.int v), none], [], nc + 1, ns + 6)) (M' := (I2, J1, sm_rf t d)) rfl trivial ?_
  rw [if_pos (decide_eq_true e5)]
  refine sm_W.run (sm_C_mono D) 2 (G := True) (fr' := (if decide (¬ k = 0) = true then 434 else 422, [some (.ref 1000000), some (.ref 0), some (.ref 61), some (.ref 96), some (.int i), some (.int k), some (.int v), none], [], nc + 1, ns + 6)) (M' := (I2, J1, sm_rf t d)) rfl trivial ?_
  have fin : sm_W sm_sh X (sm_C sm_sh X sm_P D) me_304 Q (434, [some (.ref 1000000), some (.ref 0), some (.ref 61), some (.ref 96), some (.int i), some (.int k), some (.int v), none], [], nc + 1, ns + 6) (I2, J1, sm_rf t d) := by
    refine sm_W.run (sm_C_mono D) 1 (G := True) (fr' := (1540, [some (.ref 1000000), some (.ref 0), some (.ref 61), some (.ref 96), some (.int i), some (.int k), some (.int v), none], [], nc + 1, ns + 6)) (M' := (I2, J1, sm_rf t d)) rfl trivial ?_
    exact sm_W.forget (L' := [some (.ref 1000000), some (.ref 0), some (.ref 61), some (.ref 96), some (.int i), none, none, none]) ⟨rfl, rfl, rfl, rfl, rfl, trivial⟩ (hK A R t d I2 J1 (nc + 1) (ns + 6) hd e3 (by omega) (by omega))
  by_cases hk : k = 0
  · rw [if_neg (by rw [decide_eq_true_eq]; exact fun z => z hk)]
    have e8 := e6 hk
    refine sm_W.run (sm_C_mono D) 5 (G := sm_in (0 : Int32) 1 = true ∧ True) (fr' := (if decide (v = 0) = true then 429 else 427, [some (.ref 1000000), some (.ref 0), some (.ref 61), some (.ref 96), some (.int i), some (.int k), some (.int v), none], [.long (J1 96 0)], nc + 1, ns + 6)) (M' := (I2, J1, sm_rf t d)) rfl ⟨by decide, trivial⟩ ?_
    by_cases hv : v = 0
    · rw [if_pos (decide_eq_true hv)]
      refine sm_W.run (sm_C_mono D) 3 (G := True) (fr' := (if decide (lg_cmp (J1 96 0) (0 : Int64) = 0) = true then 434 else 432, [some (.ref 1000000), some (.ref 0), some (.ref 61), some (.ref 96), some (.int i), some (.int k), some (.int v), none], [], nc + 1, ns + 6)) (M' := (I2, J1, sm_rf t d)) rfl trivial ?_
      rw [if_pos (decide_eq_true (by rw [e8, if_pos hv, lg_self]))]
      exact fin
    · rw [if_neg (by rw [decide_eq_true_eq]; exact hv)]
      refine sm_W.run (sm_C_mono D) 4 (G := True) (fr' := (if decide (lg_cmp (J1 96 0) (1 : Int64) = 0) = true then 434 else 432, [some (.ref 1000000), some (.ref 0), some (.ref 61), some (.ref 96), some (.int i), some (.int k), some (.int v), none], [], nc + 1, ns + 6)) (M' := (I2, J1, sm_rf t d)) rfl trivial ?_
      rw [if_pos (decide_eq_true (by rw [e8, if_neg hv, lg_self]))]
      exact fin
  · rw [if_pos (decide_eq_true hk)]
    exact fin
set_option maxRecDepth 100000 in
theorem K_exchange {A : sA} {R : Nat → List Nat} {t d D nc ns : Nat} {X : Nat × (Nat → Int32)} {Q : sm_Q} {I : sm_MI} {J : sm_MJ} {i : Int32} (hD : 80 ≤ D) (hd : (t = 21 ∧ d = 41) ∨ (t = 41 ∧ d = 21)) (h : Rel A R t I I) (h1 : sm_in (i + 1) X.1 = true) (h2 : sm_in (i + 2) X.1 = true) (h3 : sm_in (i + 3) X.1 = true) (h4 : sm_in (i + 4) X.1 = true) (h5 : sm_in (i + 5) X.1 = true) (hn : nc + 8 ≤ 601024) (hs : ns + 64 ≤ 7293034)
    (hK : ∀ (A' : sA) (R' : Nat → List Nat) (t' d' : Nat) (I' : sm_MI) (J' : sm_MJ) (nc' ns' : Nat), ((t' = 21 ∧ d' = 41) ∨ (t' = 41 ∧ d' = 21)) → Rel A' R' t' I' I' → nc' ≤ nc + 8 → ns' ≤ ns + 64 → sm_W sm_sh X (sm_C sm_sh X sm_P D) me_304 Q (1540, [some (.ref 1000000), some (.ref 0), some (.ref 61), some (.ref 96), some (.int i), none, none, none], [], nc', ns') (I', J', sm_rf t' d')) : sm_W sm_sh X (sm_C sm_sh X sm_P D) me_304 Q (435, [some (.ref 1000000), some (.ref 0), some (.ref 61), some (.ref 96), some (.int i), none, none, none], [], nc, ns) (I, J, sm_rf t d) := by
  have ht : t = 21 ∨ t = 41 := by omega
  obtain ⟨r, I1, v, I2, e1, e2, e3, e4⟩ := twoA (G := fun M => F_Mo_exchange (X.2 (Int32.toNatClampNeg (i + 1))) (X.2 (Int32.toNatClampNeg (i + 2))) M) h (fun M hM => x_exchange hM (X.2 (Int32.toNatClampNeg (i + 1))) (X.2 (Int32.toNatClampNeg (i + 2))))
  obtain ⟨k, J1, e5, e6⟩ := wr1b (J := J) e1 P_VM_exchange
  have e7 : F_Law_exchange t (X.2 (Int32.toNatClampNeg (i + 1))) (X.2 (Int32.toNatClampNeg (i + 2))) I J = some (k, I1, J1) := e5
  obtain ⟨e5, e6⟩ := e6 v I2 e4
  refine sm_W.run (sm_C_mono D) 12 (G := sm_in (i + 1) X.1 = true ∧ sm_in (i + 2) X.1 = true ∧ True) (fr' := (447, [some (.ref 1000000), some (.ref 0), some (.ref 61), some (.ref 96), some (.int i), none, none, none], [.ref 96, .int (X.2 (Int32.toNatClampNeg (i + 2))), .int (X.2 (Int32.toNatClampNeg (i + 1))), .ref 0], nc, ns)) (M' := (I, J, sm_rf t d)) rfl ⟨h1, h2, trivial⟩ ?_
  refine sm_W.cal (sm_C_mono D) (y := 279) (as := [.ref 0, .int (X.2 (Int32.toNatClampNeg (i + 1))), .int (X.2 (Int32.toNatClampNeg (i + 2))), .ref 96]) (fr' := (448, [some (.ref 1000000), some (.ref 0), some (.ref 61), some (.ref 96), some (.int i), none, none, none], [], nc + 2, ns + 12)) (st_cs (i := 170) (q := 882) (a := 279) (b := 4) (t := [2, 12, 265]) rfl rfl rfl (by show _ + 2 ≤ 601024; omega) (by show _ + 12 ≤ 7293034; omega)) (T_Law_exchange (by omega) ht e7 ?_)
  show sm_W sm_sh X (sm_C sm_sh X sm_P D) me_304 Q (448, [some (.ref 1000000), some (.ref 0), some (.ref 61), some (.ref 96), some (.int i), none, none, none], [.int k], nc + 2, ns + 12) (I1, J1, sm_rf t d)
  refine sm_W.run (sm_C_mono D) 1 (G := True) (fr' := (449, [some (.ref 1000000), some (.ref 0), some (.ref 61), some (.ref 96), some (.int i), some (.int k), none, none], [], nc + 2, ns + 12)) (M' := (I1, J1, sm_rf t d)) rfl trivial ?_
  refine sm_W.run (sm_C_mono D) 11 (G := sm_in (i + 1) X.1 = true ∧ sm_in (i + 2) X.1 = true ∧ True) (fr' := (460, [some (.ref 1000000), some (.ref 0), some (.ref 61), some (.ref 96), some (.int i), some (.int k), none, none], [.int (X.2 (Int32.toNatClampNeg (i + 2))), .int (X.2 (Int32.toNatClampNeg (i + 1))), .ref 61], nc + 2, ns + 12)) (M' := (I1, J1, sm_rf t d)) rfl ⟨h1, h2, trivial⟩ ?_
  refine sm_W.cal (sm_C_mono D) (y := 222) (as := [.ref 61, .int (X.2 (Int32.toNatClampNeg (i + 1))), .int (X.2 (Int32.toNatClampNeg (i + 2)))]) (fr' := (461, [some (.ref 1000000), some (.ref 0), some (.ref 61), some (.ref 96), some (.int i), some (.int k), none, none], [], nc + 2, ns + 12)) (st_cv (i := 172) (q := 900) (a := 222) (b := 3) (c := 13) (t := [0, 0, 266]) rfl rfl rfl (by show _ + 0 ≤ 601024; omega) (by show _ + 0 ≤ 7293034; omega) rfl) (T_Mo_exchange (by omega) e2 ?_)
  show sm_W sm_sh X (sm_C sm_sh X sm_P D) me_304 Q (461, [some (.ref 1000000), some (.ref 0), some (.ref 61), some (.ref 96), some (.int i), some (.int k), none, none], [.int v], nc + 2, ns + 12) (I2, J1, sm_rf t d)
  refine sm_W.run (sm_C_mono D) 2 (G := True) (fr' := (463, [some (.ref 1000000), some (.ref 0), some (.ref 61), some (.ref 96), some (.int i), some (.int k), some (.int v), none], [.ref 61], nc + 2, ns + 12)) (M' := (I2, J1, sm_rf t d)) rfl trivial ?_
  refine sm_W.cal (sm_C_mono D) (y := 157) (as := [.ref 61]) (fr' := (464, [some (.ref 1000000), some (.ref 0), some (.ref 61), some (.ref 96), some (.int i), some (.int k), some (.int v), none], [], nc + 2, ns + 12)) (st_cv (i := 135) (q := 906) (a := 157) (b := 1) (c := 13) (t := [0, 0, 246]) rfl rfl rfl (by show _ + 0 ≤ 601024; omega) (by show _ + 0 ≤ 7293034; omega) rfl) (T_Mo_thrown (by omega) rfl ?_)
  show sm_W sm_sh X (sm_C sm_sh X sm_P D) me_304 Q (464, [some (.ref 1000000), some (.ref 0), some (.ref 61), some (.ref 96), some (.int i), some (.int k), some (.int v), none], [.int (I2 61 0)], nc + 2, ns + 12) (I2, J1, sm_rf t d)
  refine sm_W.run (sm_C_mono D) 2 (G := True) (fr' := (if decide (I2 61 0 = k) = true then 468 else 466, [some (.ref 1000000), some (.ref 0), some (.ref 61), some (.ref 96), some (.int i), some (.int k), some (.int v), none], [], nc + 2, ns + 12)) (M' := (I2, J1, sm_rf t d)) rfl trivial ?_
  rw [if_pos (decide_eq_true e5)]
  refine sm_W.run (sm_C_mono D) 2 (G := True) (fr' := (if decide (¬ k = 0) = true then 482 else 470, [some (.ref 1000000), some (.ref 0), some (.ref 61), some (.ref 96), some (.int i), some (.int k), some (.int v), none], [], nc + 2, ns + 12)) (M' := (I2, J1, sm_rf t d)) rfl trivial ?_
  have fin : sm_W sm_sh X (sm_C sm_sh X sm_P D) me_304 Q (482, [some (.ref 1000000), some (.ref 0), some (.ref 61), some (.ref 96), some (.int i), some (.int k), some (.int v), none], [], nc + 2, ns + 12) (I2, J1, sm_rf t d) := by
    refine sm_W.run (sm_C_mono D) 1 (G := True) (fr' := (1540, [some (.ref 1000000), some (.ref 0), some (.ref 61), some (.ref 96), some (.int i), some (.int k), some (.int v), none], [], nc + 2, ns + 12)) (M' := (I2, J1, sm_rf t d)) rfl trivial ?_
    exact sm_W.forget (L' := [some (.ref 1000000), some (.ref 0), some (.ref 61), some (.ref 96), some (.int i), none, none, none]) ⟨rfl, rfl, rfl, rfl, rfl, trivial⟩ (hK A R t d I2 J1 (nc + 2) (ns + 12) hd e3 (by omega) (by omega))
  by_cases hk : k = 0
  · rw [if_neg (by rw [decide_eq_true_eq]; exact fun z => z hk)]
    have e8 := e6 hk
    refine sm_W.run (sm_C_mono D) 5 (G := sm_in (0 : Int32) 1 = true ∧ True) (fr' := (if decide (v = 0) = true then 477 else 475, [some (.ref 1000000), some (.ref 0), some (.ref 61), some (.ref 96), some (.int i), some (.int k), some (.int v), none], [.long (J1 96 0)], nc + 2, ns + 12)) (M' := (I2, J1, sm_rf t d)) rfl ⟨by decide, trivial⟩ ?_
    by_cases hv : v = 0
    · rw [if_pos (decide_eq_true hv)]
      refine sm_W.run (sm_C_mono D) 3 (G := True) (fr' := (if decide (lg_cmp (J1 96 0) (0 : Int64) = 0) = true then 482 else 480, [some (.ref 1000000), some (.ref 0), some (.ref 61), some (.ref 96), some (.int i), some (.int k), some (.int v), none], [], nc + 2, ns + 12)) (M' := (I2, J1, sm_rf t d)) rfl trivial ?_
      rw [if_pos (decide_eq_true (by rw [e8, if_pos hv, lg_self]))]
      exact fin
    · rw [if_neg (by rw [decide_eq_true_eq]; exact hv)]
      refine sm_W.run (sm_C_mono D) 4 (G := True) (fr' := (if decide (lg_cmp (J1 96 0) (1 : Int64) = 0) = true then 482 else 480, [some (.ref 1000000), some (.ref 0), some (.ref 61), some (.ref 96), some (.int i), some (.int k), some (.int v), none], [], nc + 2, ns + 12)) (M' := (I2, J1, sm_rf t d)) rfl trivial ?_
      rw [if_pos (decide_eq_true (by rw [e8, if_neg hv, lg_self]))]
      exact fin
  · rw [if_pos (decide_eq_true hk)]
    exact fin
