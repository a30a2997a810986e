/-! ===== the law's cases 3 ===== -/
set_option maxRecDepth 100000 in
theorem K_bargain {A : sA} {R : Nat → List Nat} {t d D nc ns : Nat} {X : Nat × (Nat → Int32)} {Q : sm_Q} {I : sm_MI} {J : sm_MJ} {i : Int32} (hD : 80 ≤ D) (hd : (t = 21 ∧ d = 41) ∨ (t = 41 ∧ d = 21)) (h : Rel A R t I I) (h1 : sm_in (i + 1) X.1 = true) (h2 : sm_in (i + 2) X.1 = true) (h3 : sm_in (i + 3) X.1 = true) (h4 : sm_in (i + 4) X.1 = true) (h5 : sm_in (i + 5) X.1 = true) (hn : nc + 8 ≤ 601024) (hs : ns + 64 ≤ 7293034)
    (hK : ∀ (A' : sA) (R' : Nat → List Nat) (t' d' : Nat) (I' : sm_MI) (J' : sm_MJ) (nc' ns' : Nat), ((t' = 21 ∧ d' = 41) ∨ (t' = 41 ∧ d' = 21)) → Rel A' R' t' I' I' → nc' ≤ nc + 8 → ns' ≤ ns + 64 → sm_W sm_sh X (sm_C sm_sh X sm_P D) me_304 Q (1540, [some (.ref 1000000), some (.ref 0), some (.ref 61), some (.ref 96), some (.int i), none, none, none], [], nc', ns') (I', J', sm_rf t' d')) : sm_W sm_sh X (sm_C sm_sh X sm_P D) me_304 Q (1264, [some (.ref 1000000), some (.ref 0), some (.ref 61), some (.ref 96), some (.int i), none, none, none], [], nc, ns) (I, J, sm_rf t d) := by
  have ht : t = 21 ∨ t = 41 := by omega
  obtain ⟨r, e1, hq⟩ := q_bargain h 
  obtain ⟨v, I2, e2, e3, e4⟩ := two0 h hq
  have e9 : v = r := e4.1
  subst e9
  refine sm_W.run (sm_C_mono D) 1 (G := True) (fr' := (1265, [some (.ref 1000000), some (.ref 0), some (.ref 61), some (.ref 96), some (.int i), none, none, none], [.ref 0], nc, ns)) (M' := (I, J, sm_rf t d)) rfl trivial ?_
  refine sm_W.cal (sm_C_mono D) (y := 126) (as := [.ref 0]) (fr' := (1266, [some (.ref 1000000), some (.ref 0), some (.ref 61), some (.ref 96), some (.int i), none, none, none], [], nc, ns)) (st_cv (i := 253) (q := 2152) (a := 126) (b := 1) (c := 12) (t := [0, 0, 315]) rfl rfl rfl (by show _ + 0 ≤ 601024; omega) (by show _ + 0 ≤ 7293034; omega) rfl) (T_VM_bargain (by omega) ht e1 ?_)
  show sm_W sm_sh X (sm_C sm_sh X sm_P D) me_304 Q (1266, [some (.ref 1000000), some (.ref 0), some (.ref 61), some (.ref 96), some (.int i), none, none, none], [.int v], nc, ns) (I, J, sm_rf t d)
  refine sm_W.run (sm_C_mono D) 1 (G := True) (fr' := (1267, [some (.ref 1000000), some (.ref 0), some (.ref 61), some (.ref 96), some (.int i), none, none, none], [.ref 61, .int v], nc, ns)) (M' := (I, J, sm_rf t d)) rfl trivial ?_
  refine sm_W.cal (sm_C_mono D) (y := 244) (as := [.ref 61]) (fr' := (1268, [some (.ref 1000000), some (.ref 0), some (.ref 61), some (.ref 96), some (.int i), none, none, none], [.int v], nc, ns)) (st_cv (i := 256) (q := 2156) (a := 244) (b := 1) (c := 13) (t := [0, 0, 316]) rfl rfl rfl (by show _ + 0 ≤ 601024; omega) (by show _ + 0 ≤ 7293034; omega) rfl) (T_Mo_bargain (by omega) e2 ?_)
  show sm_W sm_sh X (sm_C sm_sh X sm_P D) me_304 Q (1268, [some (.ref 1000000), some (.ref 0), some (.ref 61), some (.ref 96), some (.int i), none, none, none], [.int v, .int v], nc, ns) (I2, J, sm_rf t d)
  refine sm_W.run (sm_C_mono D) 1 (G := True) (fr' := (if decide (v = v) = true then 1540 else 1269, [some (.ref 1000000), some (.ref 0), some (.ref 61), some (.ref 96), some (.int i), none, none, none], [], nc, ns)) (M' := (I2, J, sm_rf t d)) rfl trivial ?_
  rw [if_pos (decide_eq_true rfl)]
  exact hK A R t d I2 J nc ns hd e3 (by omega) (by omega)
set_option maxRecDepth 100000 in
theorem K_casts {A : sA} {R : Nat → List Nat} {t d D nc ns : Nat} {X : Nat × (Nat → Int32)} {Q : sm_Q} {I : sm_MI} {J : sm_MJ} {i : Int32} (hD : 80 ≤ D) (hd : (t = 21 ∧ d = 41) ∨ (t = 41 ∧ d = 21)) (h : Rel A R t I I) (h1 : sm_in (i + 1) X.1 = true) (h2 : sm_in (i + 2) X.1 = true) (h3 : sm_in (i + 3) X.1 = true) (h4 : sm_in (i + 4) X.1 = true) (h5 : sm_in (i + 5) X.1 = true) (hn : nc + 8 ≤ 601024) (hs : ns + 64 ≤ 7293034)
    (hK : ∀ (A' : sA) (R' : Nat → List Nat) (t' d' : Nat) (I' : sm_MI) (J' : sm_MJ) (nc' ns' : Nat), ((t' = 21 ∧ d' = 41) ∨ (t' = 41 ∧ d' = 21)) → Rel A' R' t' I' I' → nc' ≤ nc + 8 → ns' ≤ ns + 64 → sm_W sm_sh X (sm_C sm_sh X sm_P D) me_304 Q (1540, [some (.ref 1000000), some (.ref 0), some (.ref 61), some (.ref 96), some (.int i), none, none, none], [], nc', ns') (I', J', sm_rf t' d')) : sm_W sm_sh X (sm_C sm_sh X sm_P D) me_304 Q (1271, [some (.ref 1000000), some (.ref 0), some (.ref 61), some (.ref 96), some (.int i), none, none, none], [], nc, ns) (I, J, sm_rf t d) := by
  have ht : t = 21 ∨ t = 41 := by omega
  obtain ⟨r, e1, hq⟩ := q_casts h (X.2 (Int32.toNatClampNeg (i + 1)))
  obtain ⟨v, I2, e2, e3, e4⟩ := two0J h hq
  obtain ⟨k, J1, e5, e6⟩ := wr0J (J := J) e1 P_VM_casts
  have e7 : F_Law_casts t (X.2 (Int32.toNatClampNeg (i + 1))) I J = some (k, J1) := e5
  obtain ⟨e5, e6⟩ := e6 v I2 e4
  refine sm_W.run (sm_C_mono D) 7 (G := sm_in (i + 1) X.1 = true ∧ True) (fr' := (1278, [some (.ref 1000000), some (.ref 0), some (.ref 61), some (.ref 96), some (.int i), none, none, none], [.ref 96, .int (X.2 (Int32.toNatClampNeg (i + 1))), .ref 0], nc, ns)) (M' := (I, J, sm_rf t d)) rfl ⟨h1, trivial⟩ ?_
  refine sm_W.cal (sm_C_mono D) (y := 297) (as := [.ref 0, .int (X.2 (Int32.toNatClampNeg (i + 1))), .ref 96]) (fr' := (1279, [some (.ref 1000000), some (.ref 0), some (.ref 61), some (.ref 96), some (.int i), none, none, none], [], nc + 1, ns + 6)) (st_cs (i := 257) (q := 2172) (a := 297) (b := 3) (t := [1, 6, 317]) rfl rfl rfl (by show _ + 1 ≤ 601024; omega) (by show _ + 6 ≤ 7293034; omega)) (T_Law_casts (by omega) ht e7 ?_)
  show sm_W sm_sh X (sm_C sm_sh X sm_P D) me_304 Q (1279, [some (.ref 1000000), some (.ref 0), some (.ref 61), some (.ref 96), some (.int i), none, none, none], [.int k], nc + 1, ns + 6) (I, J1, sm_rf t d)
  refine sm_W.run (sm_C_mono D) 1 (G := True) (fr' := (1280, [some (.ref 1000000), some (.ref 0), some (.ref 61), some (.ref 96), some (.int i), some (.int k), none, none], [], nc + 1, ns + 6)) (M' := (I, J1, sm_rf t d)) rfl trivial ?_
  refine sm_W.run (sm_C_mono D) 6 (G := sm_in (i + 1) X.1 = true ∧ True) (fr' := (1286, [some (.ref 1000000), some (.ref 0), some (.ref 61), some (.ref 96), some (.int i), some (.int k), none, none], [.int (X.2 (Int32.toNatClampNeg (i + 1))), .ref 61], nc + 1, ns + 6)) (M' := (I, J1, sm_rf t d)) rfl ⟨h1, trivial⟩ ?_
  refine sm_W.cal (sm_C_mono D) (y := 245) (as := [.ref 61, .int (X.2 (Int32.toNatClampNeg (i + 1)))]) (fr' := (1287, [some (.ref 1000000), some (.ref 0), some (.ref 61), some (.ref 96), some (.int i), some (.int k), none, none], [], nc + 1, ns + 6)) (st_cv (i := 259) (q := 2184) (a := 245) (b := 2) (c := 13) (t := [0, 0, 318]) rfl rfl rfl (by show _ + 0 ≤ 601024; omega) (by show _ + 0 ≤ 7293034; omega) rfl) (T_Mo_casts (by omega) e2 ?_)
  show sm_W sm_sh X (sm_C sm_sh X sm_P D) me_304 Q (1287, [some (.ref 1000000), some (.ref 0), some (.ref 61), some (.ref 96), some (.int i), some (.int k), none, none], [.long v], nc + 1, ns + 6) (I2, J1, sm_rf t d)
  refine sm_W.run (sm_C_mono D) 2 (G := True) (fr' := (1289, [some (.ref 1000000), some (.ref 0), some (.ref 61), some (.ref 96), some (.int i), some (.int k), some (.long v), none], [.ref 61], nc + 1, ns + 6)) (M' := (I2, J1, sm_rf t d)) rfl trivial ?_
  refine sm_W.cal (sm_C_mono D) (y := 157) (as := [.ref 61]) (fr' := (1290, [some (.ref 1000000), some (.ref 0), some (.ref 61), some (.ref 96), some (.int i), some (.int k), some (.long v), none], [], nc + 1, ns + 6)) (st_cv (i := 135) (q := 2190) (a := 157) (b := 1) (c := 13) (t := [0, 0, 246]) rfl rfl rfl (by show _ + 0 ≤ 601024; omega) (by show _ + 0 ≤ 7293034; omega) rfl) (T_Mo_thrown (by omega) rfl ?_)
  show sm_W sm_sh X (sm_C sm_sh X sm_P D) me_304 Q (1290, [some (.ref 1000000), some (.ref 0), some (.ref 61), some (.ref 96), some (.int i), some (.int k), some (.long v), none], [.int (I2 61 0)], nc + 1, ns + 6) (I2, J1, sm_rf t d)
  refine sm_W.run (sm_C_mono D) 2 (G := True) (fr' := (if decide (I2 61 0 = k) = true then 1294 else 1292, [some (.ref 1000000), some (.ref 0), some (.ref 61), some (.ref 96), some (.int i), some (.int k), some (.long v), none], [], nc + 1, ns + 6)) (M' := (I2, J1, sm_rf t d)) rfl trivial ?_
  rw [if_pos (decide_eq_true e5)]
  refine sm_W.run (sm_C_mono D) 2 (G := True) (fr' := (if decide (¬ k = 0) = true then 1304 else 1296, [some (.ref 1000000), some (.ref 0), some (.ref 61), some (.ref 96), some (.int i), some (.int k), some (.long v), none], [], nc + 1, ns + 6)) (M' := (I2, J1, sm_rf t d)) rfl trivial ?_
  have fin : sm_W sm_sh X (sm_C sm_sh X sm_P D) me_304 Q (1304, [some (.ref 1000000), some (.ref 0), some (.ref 61), some (.ref 96), some (.int i), some (.int k), some (.long v), none], [], nc + 1, ns + 6) (I2, J1, sm_rf t d) := by
    refine sm_W.run (sm_C_mono D) 1 (G := True) (fr' := (1540, [some (.ref 1000000), some (.ref 0), some (.ref 61), some (.ref 96), some (.int i), some (.int k), some (.long v), none], [], nc + 1, ns + 6)) (M' := (I2, J1, sm_rf t d)) rfl trivial ?_
    exact sm_W.forget (L' := [some (.ref 1000000), some (.ref 0), some (.ref 61), some (.ref 96), some (.int i), none, none, none]) ⟨rfl, rfl, rfl, rfl, rfl, trivial⟩ (hK A R t d I2 J1 (nc + 1) (ns + 6) hd e3 (by omega) (by omega))
  by_cases hk : k = 0
  · rw [if_neg (by rw [decide_eq_true_eq]; exact fun z => z hk)]
    have e8 := e6 hk
    refine sm_W.run (sm_C_mono D) 6 (G := sm_in (0 : Int32) 1 = true ∧ True) (fr' := (if decide (lg_cmp (J1 96 0) v = 0) = true then 1304 else 1302, [some (.ref 1000000), some (.ref 0), some (.ref 61), some (.ref 96), some (.int i), some (.int k), some (.long v), none], [], nc + 1, ns + 6)) (M' := (I2, J1, sm_rf t d)) rfl ⟨by decide, trivial⟩ ?_
    rw [if_pos (decide_eq_true (by rw [e8, lg_self]))]
    exact fin
  · rw [if_pos (decide_eq_true hk)]
    exact fin
set_option maxRecDepth 100000 in
theorem K_holds {A : sA} {R : Nat → List Nat} {t d D nc ns : Nat} {X : Nat × (Nat → Int32)} {Q : sm_Q} {I : sm_MI} {J : sm_MJ} {i : Int32} (hD : 80 ≤ D) (hd : (t = 21 ∧ d = 41) ∨ (t = 41 ∧ d = 21)) (h : Rel A R t I I) (h1 : sm_in (i + 1) X.1 = true) (h2 : sm_in (i + 2) X.1 = true) (h3 : sm_in (i + 3) X.1 = true) (h4 : sm_in (i + 4) X.1 = true) (h5 : sm_in (i + 5) X.1 = true) (hn : nc + 8 ≤ 601024) (hs : ns + 64 ≤ 7293034)
    (hK : ∀ (A' : sA) (R' : Nat → List Nat) (t' d' : Nat) (I' : sm_MI) (J' : sm_MJ) (nc' ns' : Nat), ((t' = 21 ∧ d' = 41) ∨ (t' = 41 ∧ d' = 21)) → Rel A' R' t' I' I' → nc' ≤ nc + 8 → ns' ≤ ns + 64 → sm_W sm_sh X (sm_C sm_sh X sm_P D) me_304 Q (1540, [some (.ref 1000000), some (.ref 0), some (.ref 61), some (.ref 96), some (.int i), none, none, none], [], nc', ns') (I', J', sm_rf t' d')) : sm_W sm_sh X (sm_C sm_sh X sm_P D) me_304 Q (1305, [some (.ref 1000000), some (.ref 0), some (.ref 61), some (.ref 96), some (.int i), none, none, none], [], nc, ns) (I, J, sm_rf t d) := by
  have ht : t = 21 ∨ t = 41 := by omega
  obtain ⟨r, I1, v, I2, e1, e2, e3, e4⟩ := two1 (G := fun M => F_Mo_holds (X.2 (Int32.toNatClampNeg (i + 1))) M) h (fun M hM => q_holds hM (X.2 (Int32.toNatClampNeg (i + 1))))
  obtain ⟨k, J1, e5, e6⟩ := wr1b (J := J) e1 P_VM_holds
  have e7 : F_Law_holds t (X.2 (Int32.toNatClampNeg (i + 1))) I J = some (k, I1, J1) := e5
  obtain ⟨e5, e6⟩ := e6 v I2 e4
  refine sm_W.run (sm_C_mono D) 7 (G := sm_in (i + 1) X.1 = true ∧ True) (fr' := (1312, [some (.ref 1000000), some (.ref 0), some (.ref 61), some (.ref 96), some (.int i), none, none, none], [.ref 96, .int (X.2 (Int32.toNatClampNeg (i + 1))), .ref 0], nc, ns)) (M' := (I, J, sm_rf t d)) rfl ⟨h1, trivial⟩ ?_
  refine sm_W.cal (sm_C_mono D) (y := 298) (as := [.ref 0, .int (X.2 (Int32.toNatClampNeg (i + 1))), .ref 96]) (fr' := (1313, [some (.ref 1000000), some (.ref 0), some (.ref 61), some (.ref 96), some (.int i), none, none, none], [], nc + 1, ns + 6)) (st_cs (i := 260) (q := 2227) (a := 298) (b := 3) (t := [1, 6, 319]) rfl rfl rfl (by show _ + 1 ≤ 601024; omega) (by show _ + 6 ≤ 7293034; omega)) (T_Law_holds (by omega) ht e7 ?_)
  show sm_W sm_sh X (sm_C sm_sh X sm_P D) me_304 Q (1313, [some (.ref 1000000), some (.ref 0), some (.ref 61), some (.ref 96), some (.int i), none, none, none], [.int k], nc + 1, ns + 6) (I1, J1, sm_rf t d)
  refine sm_W.run (sm_C_mono D) 1 (G := True) (fr' := (1314, [some (.ref 1000000), some (.ref 0), some (.ref 61), some (.ref 96), some (.int i), some (.int k), none, none], [], nc + 1, ns + 6)) (M' := (I1, J1, sm_rf t d)) rfl trivial ?_
  refine sm_W.run (sm_C_mono D) 6 (G := sm_in (i + 1) X.1 = true ∧ True) (fr' := (1320, [some (.ref 1000000), some (.ref 0), some (.ref 61), some (.ref 96), some (.int i), some (.int k), none, none], [.int (X.2 (Int32.toNatClampNeg (i + 1))), .ref 61], nc + 1, ns + 6)) (M' := (I1, J1, sm_rf t d)) rfl ⟨h1, trivial⟩ ?_
  refine sm_W.cal (sm_C_mono D) (y := 246) (as := [.ref 61, .int (X.2 (Int32.toNatClampNeg (i + 1)))]) (fr' := (1321, [some (.ref 1000000), some (.ref 0), some (.ref 61), some (.ref 96), some (.int i), some (.int k), none, none], [], nc + 1, ns + 6)) (st_cv (i := 262) (q := 2239) (a := 246) (b := 2) (c := 13) (t := [0, 0, 320]) rfl rfl rfl (by show _ + 0 ≤ 601024; omega) (by show _ + 0 ≤ 7293034; omega) rfl) (T_Mo_holds (by omega) e2 ?_)
  show sm_W sm_sh X (sm_C sm_sh X sm_P D) me_304 Q (1321, [some (.ref 1000000), some (.ref 0), some (.ref 61), some (.ref 96), some (.int i), some (.int k), none, none], [.int v], nc + 1, ns + 6) (I2, J1, sm_rf t d)
  refine sm_W.run (sm_C_mono D) 2 (G := True) (fr' := (1323, [some (.ref 1000000), some (.ref 0), some (.ref 61), some (.ref 96), some (.int i), some (.int k), some (.int v), none], [.ref 61], nc + 1, ns + 6)) (M' := (I2, J1, sm_rf t d)) rfl trivial ?_
  refine sm_W.cal (sm_C_mono D) (y := 157) (as := [.ref 61]) (fr' := (1324, [some (.ref 1000000), some (.ref 0), some (.ref 61), some (.ref 96), some (.int i), some (.int k), some (.int v), none], [], nc + 1, ns + 6)) (st_cv (i := 135) (q := 2245) (a := 157) (b := 1) (c := 13) (t := [0, 0, 246]) rfl rfl rfl (by show _ + 0 ≤ 601024; omega) (by show _ + 0 ≤ 7293034; omega) rfl) (T_Mo_thrown (by omega) rfl ?_)
  show sm_W sm_sh X (sm_C sm_sh X sm_P D) me_304 Q (1324, [some (.ref 1000000), some (.ref 0), some (.ref 61), some (.ref 96), some (.int i), some (.int k), some (.int v), none], [.int (I2 61 0)], nc + 1, ns + 6) (I2, J1, sm_rf t d)
  refine sm_W.run (sm_C_mono D) 2 (G := True) (fr' := (if decide (I2 61 0 = k) = true then 1328 else 1326, [some (.ref 1000000), some (.ref 0), some (.ref 61), some (.ref 96), some (.int i), some (.int k), some (.int v), none], [], nc + 1, ns + 6)) (M' := (I2, J1, sm_rf t d)) rfl trivial ?_
  rw [if_pos (decide_eq_true e5)]
  refine sm_W.run (sm_C_mono D) 2 (G := True) (fr' := (if decide (¬ k = 0) = true then 1342 else 1330, [some (.ref 1000000), some (.ref 0), some (.ref 61), some (.ref 96), some (.int i), some (.int k), some (.int v), none], [], nc + 1, ns + 6)) (M' := (I2, J1, sm_rf t d)) rfl trivial ?_
  have fin : sm_W sm_sh X (sm_C sm_sh X sm_P D) me_304 Q (1342, [some (.ref 1000000), some (.ref 0), some (.ref 61), some (.ref 96), some (.int i), some (.int k), some (.int v), none], [], nc + 1, ns + 6) (I2, J1, sm_rf t d) := by
    refine sm_W.run (sm_C_mono D) 1 (G := True) (fr' := (1540, [some (.ref 1000000), some (.ref 0), some (.ref 61), some (.ref 96), some (.int i), some (.int k), some (.int v), none], [], nc + 1, ns + 6)) (M' := (I2, J1, sm_rf t d)) rfl trivial ?_
    exact sm_W.forget (L' := [some (.ref 1000000), some (.ref 0), some (.ref 61), some (.ref 96), some (.int i), none, none, none]) ⟨rfl, rfl, rfl, rfl, rfl, trivial⟩ (hK A R t d I2 J1 (nc + 1) (ns + 6) hd e3 (by omega) (by omega))
  by_cases hk : k = 0
  · rw [if_neg (by rw [decide_eq_true_eq]; exact fun z => z hk)]
    have e8 := e6 hk
    refine sm_W.run (sm_C_mono D) 5 (G := sm_in (0 : Int32) 1 = true ∧ True) (fr' := (if decide (v = 0) = true then 1337 else 1335, [some (.ref 1000000), some (.ref 0), some (.ref 61), some (.ref 96), some (.int i), some (.int k), some (.int v), none], [.long (J1 96 0)], nc + 1, ns + 6)) (M' := (I2, J1, sm_rf t d)) rfl ⟨by decide, trivial⟩ ?_
    by_cases hv : v = 0
    · rw [if_pos (decide_eq_true hv)]
      refine sm_W.run (sm_C_mono D) 3 (G := True) (fr' := (if decide (lg_cmp (J1 96 0) (0 : Int64) = 0) = true then 1342 else 1340, [some (.ref 1000000), some (.ref 0), some (.ref 61), some (.ref 96), some (.int i), some (.int k), some (.int v), none], [], nc + 1, ns + 6)) (M' := (I2, J1, sm_rf t d)) rfl trivial ?_
      rw [if_pos (decide_eq_true (by rw [e8, if_pos hv, lg_self]))]
      exact fin
    · rw [if_neg (by rw [decide_eq_true_eq]; exact hv)]
      refine sm_W.run (sm_C_mono D) 4 (G := True) (fr' := (if decide (lg_cmp (J1 96 0) (1 : Int64) = 0) = true then 1342 else 1340, [some (.ref 1000000), some (.ref 0), some (.ref 61), some (.ref 96), some (.int i), some (.int k), some (.int v), none], [], nc + 1, ns + 6)) (M' := (I2, J1, sm_rf t d)) rfl trivial ?_
      rw [if_pos (decide_eq_true (by rw [e8, if_neg hv, lg_self]))]
      exact fin
  · rw [if_pos (decide_eq_true hk)]
    exact fin
set_option maxRecDepth 100000 in
theorem K_aimed {A : sA} {R : Nat → List Nat} {t d D nc ns : Nat} {X : Nat × (Nat → Int32)} {Q : sm_Q} {I : sm_MI} {J : sm_MJ} {i : Int32} (hD : 80 ≤ D) (hd : (t = 21 ∧ d = 41) ∨ (t = 41 ∧ d = 21)) (h : Rel A R t I I) (h1 : sm_in (i + 1) X.1 = true) (h2 : sm_in (i + 2) X.1 = true) (h3 : sm_in (i + 3) X.1 = true) (h4 : sm_in (i + 4) X.1 = true) (h5 : sm_in (i + 5) X.1 = true) (hn : nc + 8 ≤ 601024) (hs : ns + 64 ≤ 7293034)
    (hK : ∀ (A' : sA) (R' : Nat → List Nat) (t' d' : Nat) (I' : sm_MI) (J' : sm_MJ) (nc' ns' : Nat), ((t' = 21 ∧ d' = 41) ∨ (t' = 41 ∧ d' = 21)) → Rel A' R' t' I' I' → nc' ≤ nc + 8 → ns' ≤ ns + 64 → sm_W sm_sh X (sm_C sm_sh X sm_P D) me_304 Q (1540, [some (.ref 1000000), some (.ref 0), some (.ref 61), some (.ref 96), some (.int i), none, none, none], [], nc', ns') (I', J', sm_rf t' d')) : sm_W sm_sh X (sm_C sm_sh X sm_P D) me_304 Q (1343, [some (.ref 1000000), some (.ref 0), some (.ref 61), some (.ref 96), some (.int i), none, none, none], [], nc, ns) (I, J, sm_rf t d) := by
  have ht : t = 21 ∨ t = 41 := by omega
  obtain ⟨r, I1, v, I2, e1, e2, e3, e4⟩ := two1 (G := fun M => F_Mo_aimed (X.2 (Int32.toNatClampNeg (i + 1))) M) h (fun M hM => q_aimed hM (X.2 (Int32.toNatClampNeg (i + 1))))
  obtain ⟨k, J1, e5, e6⟩ := wr1 (J := J) e1 P_VM_aimed
  have e7 : F_Law_aimed t (X.2 (Int32.toNatClampNeg (i + 1))) I J = some (k, I1, J1) := e5
  obtain ⟨e5, e6⟩ := e6 v I2 e4
  refine sm_W.run (sm_C_mono D) 7 (G := sm_in (i + 1) X.1 = true ∧ True) (fr' := (1350, [some (.ref 1000000), some (.ref 0), some (.ref 61), some (.ref 96), some (.int i), none, none, none], [.ref 96, .int (X.2 (Int32.toNatClampNeg (i + 1))), .ref 0], nc, ns)) (M' := (I, J, sm_rf t d)) rfl ⟨h1, trivial⟩ ?_
  refine sm_W.cal (sm_C_mono D) (y := 299) (as := [.ref 0, .int (X.2 (Int32.toNatClampNeg (i + 1))), .ref 96]) (fr' := (1351, [some (.ref 1000000), some (.ref 0), some (.ref 61), some (.ref 96), some (.int i), none, none, none], [], nc + 1, ns + 6)) (st_cs (i := 263) (q := 2290) (a := 299) (b := 3) (t := [1, 6, 321]) rfl rfl rfl (by show _ + 1 ≤ 601024; omega) (by show _ + 6 ≤ 7293034; omega)) (T_Law_aimed (by omega) ht e7 ?_)
  show sm_W sm_sh X (sm_C sm_sh X sm_P D) me_304 Q (1351, [some (.ref 1000000), some (.ref 0), some (.ref 61), some (.ref 96), some (.int i), none, none, none], [.int k], nc + 1, ns + 6) (I1, J1, sm_rf t d)
  refine sm_W.run (sm_C_mono D) 1 (G := True) (fr' := (1352, [some (.ref 1000000), some (.ref 0), some (.ref 61), some (.ref 96), some (.int i), some (.int k), none, none], [], nc + 1, ns + 6)) (M' := (I1, J1, sm_rf t d)) rfl trivial ?_
  refine sm_W.run (sm_C_mono D) 6 (G := sm_in (i + 1) X.1 = true ∧ True) (fr' := (1358, [some (.ref 1000000), some (.ref 0), some (.ref 61), some (.ref 96), some (.int i), some (.int k), none, none], [.int (X.2 (Int32.toNatClampNeg (i + 1))), .ref 61], nc + 1, ns + 6)) (M' := (I1, J1, sm_rf t d)) rfl ⟨h1, trivial⟩ ?_
  refine sm_W.cal (sm_C_mono D) (y := 247) (as := [.ref 61, .int (X.2 (Int32.toNatClampNeg (i + 1)))]) (fr' := (1359, [some (.ref 1000000), some (.ref 0), some (.ref 61), some (.ref 96), some (.int i), some (.int k), none, none], [], nc + 1, ns + 6)) (st_cv (i := 265) (q := 2302) (a := 247) (b := 2) (c := 13) (t := [0, 0, 322]) rfl rfl rfl (by show _ + 0 ≤ 601024; omega) (by show _ + 0 ≤ 7293034; omega) rfl) (T_Mo_aimed (by omega) e2 ?_)
  show sm_W sm_sh X (sm_C sm_sh X sm_P D) me_304 Q (1359, [some (.ref 1000000), some (.ref 0), some (.ref 61), some (.ref 96), some (.int i), some (.int k), none, none], [.int v], nc + 1, ns + 6) (I2, J1, sm_rf t d)
  refine sm_W.run (sm_C_mono D) 2 (G := True) (fr' := (1361, [some (.ref 1000000), some (.ref 0), some (.ref 61), some (.ref 96), some (.int i), some (.int k), some (.int v), none], [.ref 61], nc + 1, ns + 6)) (M' := (I2, J1, sm_rf t d)) rfl trivial ?_
  refine sm_W.cal (sm_C_mono D) (y := 157) (as := [.ref 61]) (fr' := (1362, [some (.ref 1000000), some (.ref 0), some (.ref 61), some (.ref 96), some (.int i), some (.int k), some (.int v), none], [], nc + 1, ns + 6)) (st_cv (i := 135) (q := 2308) (a := 157) (b := 1) (c := 13) (t := [0, 0, 246]) rfl rfl rfl (by show _ + 0 ≤ 601024; omega) (by show _ + 0 ≤ 7293034; omega) rfl) (T_Mo_thrown (by omega) rfl ?_)
  show sm_W sm_sh X (sm_C sm_sh X sm_P D) me_304 Q (1362, [some (.ref 1000000), some (.ref 0), some (.ref 61), some (.ref 96), some (.int i), some (.int k), some (.int v), none], [.int (I2 61 0)], nc + 1, ns + 6) (I2, J1, sm_rf t d)
  refine sm_W.run (sm_C_mono D) 2 (G := True) (fr' := (if decide (I2 61 0 = k) = true then 1366 else 1364, [some (.ref 1000000), some (.ref 0), some (.ref 61), some (.ref 96), some (.int i), some (.int k), some (.int v), none], [], nc + 1, ns + 6)) (M' := (I2, J1, sm_rf t d)) rfl trivial ?_
  rw [if_pos (decide_eq_true e5)]
  refine sm_W.run (sm_C_mono D) 2 (G := True) (fr' := (if decide (¬ k = 0) = true then 1377 else 1368, [some (.ref 1000000), some (.ref 0), some (.ref 61), some (.ref 96), some (.int i), some (.int k), some (.int v), none], [], nc + 1, ns + 6)) (M' := (I2, J1, sm_rf t d)) rfl trivial ?_
  have fin : sm_W sm_sh X (sm_C sm_sh X sm_P D) me_304 Q (1377, [some (.ref 1000000), some (.ref 0), some (.ref 61), some (.ref 96), some (.int i), some (.int k), some (.int v), none], [], nc + 1, ns + 6) (I2, J1, sm_rf t d) := by
    refine sm_W.run (sm_C_mono D) 1 (G := True) (fr' := (1540, [some (.ref 1000000), some (.ref 0), some (.ref 61), some (.ref 96), some (.int i), some (.int k), some (.int v), none], [], nc + 1, ns + 6)) (M' := (I2, J1, sm_rf t d)) rfl trivial ?_
    exact sm_W.forget (L' := [some (.ref 1000000), some (.ref 0), some (.ref 61), some (.ref 96), some (.int i), none, none, none]) ⟨rfl, rfl, rfl, rfl, rfl, trivial⟩ (hK A R t d I2 J1 (nc + 1) (ns + 6) hd e3 (by omega) (by omega))
  by_cases hk : k = 0
  · rw [if_neg (by rw [decide_eq_true_eq]; exact fun z => z hk)]
    have e8 := e6 hk
    refine sm_W.run (sm_C_mono D) 7 (G := sm_in (0 : Int32) 1 = true ∧ True) (fr' := (if decide (lg_cmp (J1 96 0) (Int32.toInt64 v) = 0) = true then 1377 else 1375, [some (.ref 1000000), some (.ref 0), some (.ref 61), some (.ref 96), some (.int i), some (.int k), some (.int v), none], [], nc + 1, ns + 6)) (M' := (I2, J1, sm_rf t d)) rfl ⟨by decide, trivial⟩ ?_
    rw [if_pos (decide_eq_true (by rw [e8, lg_self]))]
    exact fin
  · rw [if_pos (decide_eq_true hk)]
    exact fin
set_option maxRecDepth 100000 in
theorem K_held {A : sA} {R : Nat → List Nat} {t d D nc ns : Nat} {X : Nat × (Nat → Int32)} {Q : sm_Q} {I : sm_MI} {J : sm_MJ} {i : Int32} (hD : 80 ≤ D) (hd : (t = 21 ∧ d = 41) ∨ (t = 41 ∧ d = 21)) (h : Rel A R t I I) (h1 : sm_in (i + 1) X.1 = true) (h2 : sm_in (i + 2) X.1 = true) (h3 : sm_in (i + 3) X.1 = true) (h4 : sm_in (i + 4) X.1 = true) (h5 : sm_in (i + 5) X.1 = true) (hn : nc + 8 ≤ 601024) (hs : ns + 64 ≤ 7293034)
    (hK : ∀ (A' : sA) (R' : Nat → List Nat) (t' d' : Nat) (I' : sm_MI) (J' : sm_MJ) (nc' ns' : Nat), ((t' = 21 ∧ d' = 41) ∨ (t' = 41 ∧ d' = 21)) → Rel A' R' t' I' I' → nc' ≤ nc + 8 → ns' ≤ ns + 64 → sm_W sm_sh X (sm_C sm_sh X sm_P D) me_304 Q (1540, [some (.ref 1000000), some (.ref 0), some (.ref 61), some (.ref 96), some (.int i), none, none, none], [], nc', ns') (I', J', sm_rf t' d')) : sm_W sm_sh X (sm_C sm_sh X sm_P D) me_304 Q (1378, [some (.ref 1000000), some (.ref 0), some (.ref 61), some (.ref 96), some (.int i), none, none, none], [], nc, ns) (I, J, sm_rf t d) := by
  have ht : t = 21 ∨ t = 41 := by omega
  obtain ⟨r, I1, v, I2, e1, e2, e3, e4⟩ := two1 (G := fun M => F_Mo_held (X.2 (Int32.toNatClampNeg (i + 1))) (X.2 (Int32.toNatClampNeg (i + 2))) M) h (fun M hM => q_held hM (X.2 (Int32.toNatClampNeg (i + 1))) (X.2 (Int32.toNatClampNeg (i + 2))))
  obtain ⟨k, J1, e5, e6⟩ := wr1t (J := J) e1 P_VM_held
  have e7 : F_Law_held t (X.2 (Int32.toNatClampNeg (i + 1))) (X.2 (Int32.toNatClampNeg (i + 2))) I J = some (k, I1, J1) := e5
  obtain ⟨e5, e6⟩ := e6 v I2 e4
  refine sm_W.run (sm_C_mono D) 12 (G := sm_in (i + 1) X.1 = true ∧ sm_in (i + 2) X.1 = true ∧ True) (fr' := (1390, [some (.ref 1000000), some (.ref 0), some (.ref 61), some (.ref 96), some (.int i), none, none, none], [.ref 96, .int (X.2 (Int32.toNatClampNeg (i + 2))), .int (X.2 (Int32.toNatClampNeg (i + 1))), .ref 0], nc, ns)) (M' := (I, J, sm_rf t d)) rfl ⟨h1, h2, trivial⟩ ?_
  refine sm_W.cal (sm_C_mono D) (y := 300) (as := [.ref 0, .int (X.2 (Int32.toNatClampNeg (i + 1))), .int (X.2 (Int32.toNatClampNeg (i + 2))), .ref 96]) (fr' := (1391, [some (.ref 1000000), some (.ref 0), some (.ref 61), some (.ref 96), some (.int i), none, none, none], [], nc + 2, ns + 12)) (st_cs (i := 266) (q := 2352) (a := 300) (b := 4) (t := [2, 12, 323]) rfl rfl rfl (by show _ + 2 ≤ 601024; omega) (by show _ + 12 ≤ 7293034; omega)) (T_Law_held (by omega) ht e7 ?_)
  show sm_W sm_sh X (sm_C sm_sh X sm_P D) me_304 Q (1391, [some (.ref 1000000), some (.ref 0), some (.ref 61), some (.ref 96), some (.int i), none, none, none], [.int k], nc + 2, ns + 12) (I1, J1, sm_rf t d)
  refine sm_W.run (sm_C_mono D) 1 (G := True) (fr' := (1392, [some (.ref 1000000), some (.ref 0), some (.ref 61), some (.ref 96), some (.int i), some (.int k), none, none], [], nc + 2, ns + 12)) (M' := (I1, J1, sm_rf t d)) rfl trivial ?_
  refine sm_W.run (sm_C_mono D) 11 (G := sm_in (i + 1) X.1 = true ∧ sm_in (i + 2) X.1 = true ∧ True) (fr' := (1403, [some (.ref 1000000), some (.ref 0), some (.ref 61), some (.ref 96), some (.int i), some (.int k), none, none], [.int (X.2 (Int32.toNatClampNeg (i + 2))), .int (X.2 (Int32.toNatClampNeg (i + 1))), .ref 61], nc + 2, ns + 12)) (M' := (I1, J1, sm_rf t d)) rfl ⟨h1, h2, trivial⟩ ?_
  refine sm_W.cal (sm_C_mono D) (y := 248) (as := [.ref 61, .int (X.2 (Int32.toNatClampNeg (i + 1))), .int (X.2 (Int32.toNatClampNeg (i + 2)))]) (fr' := (1404, [some (.ref 1000000), some (.ref 0), some (.ref 61), some (.ref 96), some (.int i), some (.int k), none, none], [], nc + 2, ns + 12)) (st_cv (i := 268) (q := 2370) (a := 248) (b := 3) (c := 13) (t := [0, 0, 324]) rfl rfl rfl (by show _ + 0 ≤ 601024; omega) (by show _ + 0 ≤ 7293034; omega) rfl) (T_Mo_held (by omega) e2 ?_)
  show sm_W sm_sh X (sm_C sm_sh X sm_P D) me_304 Q (1404, [some (.ref 1000000), some (.ref 0), some (.ref 61), some (.ref 96), some (.int i), some (.int k), none, none], [.int v], nc + 2, ns + 12) (I2, J1, sm_rf t d)
  refine sm_W.run (sm_C_mono D) 2 (G := True) (fr' := (1406, [some (.ref 1000000), some (.ref 0), some (.ref 61), some (.ref 96), some (.int i), some (.int k), some (.int v), none], [.ref 61], nc + 2, ns + 12)) (M' := (I2, J1, sm_rf t d)) rfl trivial ?_
  refine sm_W.cal (sm_C_mono D) (y := 157) (as := [.ref 61]) (fr' := (1407, [some (.ref 1000000), some (.ref 0), some (.ref 61), some (.ref 96), some (.int i), some (.int k), some (.int v), none], [], nc + 2, ns + 12)) (st_cv (i := 135) (q := 2376) (a := 157) (b := 1) (c := 13) (t := [0, 0, 246]) rfl rfl rfl (by show _ + 0 ≤ 601024; omega) (by show _ + 0 ≤ 7293034; omega) rfl) (T_Mo_thrown (by omega) rfl ?_)
  show sm_W sm_sh X (sm_C sm_sh X sm_P D) me_304 Q (1407, [some (.ref 1000000), some (.ref 0), some (.ref 61), some (.ref 96), some (.int i), some (.int k), some (.int v), none], [.int (I2 61 0)], nc + 2, ns + 12) (I2, J1, sm_rf t d)
  refine sm_W.run (sm_C_mono D) 2 (G := True) (fr' := (if decide (I2 61 0 = k) = true then 1411 else 1409, [some (.ref 1000000), some (.ref 0), some (.ref 61), some (.ref 96), some (.int i), some (.int k), some (.int v), none], [], nc + 2, ns + 12)) (M' := (I2, J1, sm_rf t d)) rfl trivial ?_
  rw [if_pos (decide_eq_true e5)]
  refine sm_W.run (sm_C_mono D) 2 (G := True) (fr' := (if decide (¬ k = 0) = true then 1422 else 1413, [some (.ref 1000000), some (.ref 0), some (.ref 61), some (.ref 96), some (.int i), some (.int k), some (.int v), none], [], nc + 2, ns + 12)) (M' := (I2, J1, sm_rf t d)) rfl trivial ?_
  have fin : sm_W sm_sh X (sm_C sm_sh X sm_P D) me_304 Q (1422, [some (.ref 1000000), some (.ref 0), some (.ref 61), some (.ref 96), some (.int i), some (.int k), some (.int v), none], [], nc + 2, ns + 12) (I2, J1, sm_rf t d) := by
    refine sm_W.run (sm_C_mono D) 1 (G := True) (fr' := (1540, [some (.ref 1000000), some (.ref 0), some (.ref 61), some (.ref 96), some (.int i), some (.int k), some (.int v), none], [], nc + 2, ns + 12)) (M' := (I2, J1, sm_rf t d)) rfl trivial ?_
    exact sm_W.forget (L' := [some (.ref 1000000), some (.ref 0), some (.ref 61), some (.ref 96), some (.int i), none, none, none]) ⟨rfl, rfl, rfl, rfl, rfl, trivial⟩ (hK A R t d I2 J1 (nc + 2) (ns + 12) hd e3 (by omega) (by omega))
  by_cases hk : k = 0
  · rw [if_neg (by rw [decide_eq_true_eq]; exact fun z => z hk)]
    have e8 := e6 hk
    refine sm_W.run (sm_C_mono D) 7 (G := sm_in (0 : Int32) 1 = true ∧ True) (fr' := (if decide (lg_cmp (J1 96 0) (Int32.toInt64 v) = 0) = true then 1422 else 1420, [some (.ref 1000000), some (.ref 0), some (.ref 61), some (.ref 96), some (.int i), some (.int k), some (.int v), none], [], nc + 2, ns + 12)) (M' := (I2, J1, sm_rf t d)) rfl ⟨by decide, trivial⟩ ?_
    rw [if_pos (decide_eq_true (by rw [e8, lg_self]))]
    exact fin
  · rw [if_pos (decide_eq_true hk)]
    exact fin
set_option maxRecDepth 100000 in
theorem K_lost {A : sA} {R : Nat → List Nat} {t d D nc ns : Nat} {X : Nat × (Nat → Int32)} {Q : sm_Q} {I : sm_MI} {J : sm_MJ} {i : Int32} (hD : 80 ≤ D) (hd : (t = 21 ∧ d = 41) ∨ (t = 41 ∧ d = 21)) (h : Rel A R t I I) (h1 : sm_in (i + 1) X.1 = true) (h2 : sm_in (i + 2) X.1 = true) (h3 : sm_in (i + 3) X.1 = true) (h4 : sm_in (i + 4) X.1 = true) (h5 : sm_in (i + 5) X.1 = true) (hn : nc + 8 ≤ 601024) (hs : ns + 64 ≤ 7293034)
    (hK : ∀ (A' : sA) (R' : Nat → List Nat) (t' d' : Nat) (I' : sm_MI) (J' : sm_MJ) (nc' ns' : Nat), ((t' = 21 ∧ d' = 41) ∨ (t' = 41 ∧ d' = 21)) → Rel A' R' t' I' I' → nc' ≤ nc + 8 → ns' ≤ ns + 64 → sm_W sm_sh X (sm_C sm_sh X sm_P D) me_304 Q (1540, [some (.ref 1000000), some (.ref 0), some (.ref 61), some (.ref 96), some (.int i), none, none, none], [], nc', ns') (I', J', sm_rf t' d')) : sm_W sm_sh X (sm_C sm_sh X sm_P D) me_304 Q (1423, [some (.ref 1000000), some (.ref 0), some (.ref 61), some (.ref 96), some (.int i), none, none, none], [], nc, ns) (I, J, sm_rf t d) := by
  have ht : t = 21 ∨ t = 41 := by omega
  obtain ⟨r, I1, v, I2, e1, e2, e3, e4⟩ := two1 (G := fun M => F_Mo_lost (X.2 (Int32.toNatClampNeg (i + 1))) M) h (fun M hM => q_lost hM (X.2 (Int32.toNatClampNeg (i + 1))))
  obtain ⟨k, J1, e5, e6⟩ := wr1 (J := J) e1 P_VM_lost
  have e7 : F_Law_lost t (X.2 (Int32.toNatClampNeg (i + 1))) I J = some (k, I1, J1) := e5
  obtain ⟨e5, e6⟩ := e6 v I2 e4
  refine sm_W.run (sm_C_mono D) 7 (G := sm_in (i + 1) X.1 = true ∧ True) (fr' := (1430, [some (.ref 1000000), some (.ref 0), some (.ref 61), some (.ref 96), some (.int i), none, none, none], [.ref 96, .int (X.2 (Int32.toNatClampNeg (i + 1))), .ref 0], nc, ns)) (M' := (I, J, sm_rf t d)) rfl ⟨h1, trivial⟩ ?_
  refine sm_W.cal (sm_C_mono D) (y := 301) (as := [.ref 0, .int (X.2 (Int32.toNatClampNeg (i + 1))), .ref 96]) (fr' := (1431, [some (.ref 1000000), some (.ref 0), some (.ref 61), some (.ref 96), some (.int i), none, none, none], [], nc + 1, ns + 6)) (st_cs (i := 269) (q := 2414) (a := 301) (b := 3) (t := [1, 6, 325]) rfl rfl rfl (by show _ + 1 ≤ 601024; omega) (by show _ + 6 ≤ 7293034; omega)) (T_Law_lost (by omega) ht e7 ?_)
  show sm_W sm_sh X (sm_C sm_sh X sm_P D) me_304 Q (1431, [some (.ref 1000000), some (.ref 0), some (.ref 61), some (.ref 96), some (.int i), none, none, none], [.int k], nc + 1, ns + 6) (I1, J1, sm_rf t d)
  refine sm_W.run (sm_C_mono D) 1 (G := True) (fr' := (1432, [some (.ref 1000000), some (.ref 0), some (.ref 61), some (.ref 96), some (.int i), some (.int k), none, none], [], nc + 1, ns + 6)) (M' := (I1, J1, sm_rf t d)) rfl trivial ?_
  refine sm_W.run (sm_C_mono D) 6 (G := sm_in (i + 1) X.1 = true ∧ True) (fr' := (1438, [some (.ref 1000000), some (.ref 0), some (.ref 61), some (.ref 96), some (.int i), some (.int k), none, none], [.int (X.2 (Int32.toNatClampNeg (i + 1))), .ref 61], nc + 1, ns + 6)) (M' := (I1, J1, sm_rf t d)) rfl ⟨h1, trivial⟩ ?_
  refine sm_W.cal (sm_C_mono D) (y := 249) (as := [.ref 61, .int (X.2 (Int32.toNatClampNeg (i + 1)))]) (fr' := (1439, [some (.ref 1000000), some (.ref 0), some (.ref 61), some (.ref 96), some (.int i), some (.int k), none, none], [], nc + 1, ns + 6)) (st_cv (i := 271) (q := 2426) (a := 249) (b := 2) (c := 13) (t := [0, 0, 326]) rfl rfl rfl (by show _ + 0 ≤ 601024; omega) (by show _ + 0 ≤ 7293034; omega) rfl) (T_Mo_lost (by omega) e2 ?_)
  show sm_W sm_sh X (sm_C sm_sh X sm_P D) me_304 Q (1439, [some (.ref 1000000), some (.ref 0), some (.ref 61), some (.ref 96), some (.int i), some (.int k), none, none], [.int v], nc + 1, ns + 6) (I2, J1, sm_rf t d)
  refine sm_W.run (sm_C_mono D) 2 (G := True) (fr' := (1441, [some (.ref 1000000), some (.ref 0), some (.ref 61), some (.ref 96), some (.int i), some (.int k), some (.int v), none], [.ref 61], nc + 1, ns + 6)) (M' := (I2, J1, sm_rf t d)) rfl trivial ?_
  refine sm_W.cal (sm_C_mono D) (y := 157) (as := [.ref 61]) (fr' := (1442, [some (.ref 1000000), some (.ref 0), some (.ref 61), some (.ref 96), some (.int i), some (.int k), some (.int v), none], [], nc + 1, ns + 6)) (st_cv (i := 135) (q := 2432) (a := 157) (b := 1) (c := 13) (t := [0, 0, 246]) rfl rfl rfl (by show _ + 0 ≤ 601024; omega) (by show _ + 0 ≤ 7293034; omega) rfl) (T_Mo_thrown (by omega) rfl ?_)
  show sm_W sm_sh X (sm_C sm_sh X sm_P D) me_304 Q (1442, [some (.ref 1000000), some (.ref 0), some (.ref 61), some (.ref 96), some (.int i), some (.int k), some (.int v), none], [.int (I2 61 0)], nc + 1, ns + 6) (I2, J1, sm_rf t d)
  refine sm_W.run (sm_C_mono D) 2 (G := True) (fr' := (if decide (I2 61 0 = k) = true then 1446 else 1444, [some (.ref 1000000), some (.ref 0), some (.ref 61), some (.ref 96), some (.int i), some (.int k), some (.int v), none], [], nc + 1, ns + 6)) (M' := (I2, J1, sm_rf t d)) rfl trivial ?_
  rw [if_pos (decide_eq_true e5)]
  refine sm_W.run (sm_C_mono D) 2 (G := True) (fr' := (if decide (¬ k = 0) = true then 1457 else 1448, [some (.ref 1000000), some (.ref 0), some (.ref 61), some (.ref 96), some (.int i), some (.int k), some (.int v), none], [], nc + 1, ns + 6)) (M' := (I2, J1, sm_rf t d)) rfl trivial ?_
  have fin : sm_W sm_sh X (sm_C sm_sh X sm_P D) me_304 Q (1457, [some (.ref 1000000), some (.ref 0), some (.ref 61), some (.ref 96), some (.int i), some (.int k), some (.int v), none], [], nc + 1, ns + 6) (I2, J1, sm_rf t d) := by
    refine sm_W.run (sm_C_mono D) 1 (G := True) (fr' := (1540, [some (.ref 1000000), some (.ref 0), some (.ref 61), some (.ref 96), some (.int i), some (.int k), some (.int v), none], [], nc + 1, ns + 6)) (M' := (I2, J1, sm_rf t d)) rfl trivial ?_
    exact sm_W.forget (L' := [some (.ref 1000000), some (.ref 0), some (.ref 61), some (.ref 96), some (.int i), none, none, none]) ⟨rfl, rfl, rfl, rfl, rfl, trivial⟩ (hK A R t d I2 J1 (nc + 1) (ns + 6) hd e3 (by omega) (by omega))
  by_cases hk : k = 0
  · rw [if_neg (by rw [decide_eq_true_eq]; exact fun z => z hk)]
    have e8 := e6 hk
    refine sm_W.run (sm_C_mono D) 7 (G := sm_in (0 : Int32) 1 = true ∧ True) (fr' := (if decide (lg_cmp (J1 96 0) (Int32.toInt64 v) = 0) = true then 1457 else 1455, [some (.ref 1000000), some (.ref 0), some (.ref 61), some (.ref 96), some (.int i), some (.int k), some (.int v), none], [], nc + 1, ns + 6)) (M' := (I2, J1, sm_rf t d)) rfl ⟨by decide, trivial⟩ ?_
    rw [if_pos (decide_eq_true (by rw [e8, lg_self]))]
    exact fin
  · rw [if_pos (decide_eq_true hk)]
    exact fin
set_option maxRecDepth 100000 in
theorem K_gone {A : sA} {R : Nat → List Nat} {t d D nc ns : Nat} {X : Nat × (Nat → Int32)} {Q : sm_Q} {I : sm_MI} {J : sm_MJ} {i : Int32} (hD : 80 ≤ D) (hd : (t = 21 ∧ d = 41) ∨ (t = 41 ∧ d = 21)) (h : Rel A R t I I) (h1 : sm_in (i + 1) X.1 = true) (h2 : sm_in (i + 2) X.1 = true) (h3 : sm_in (i + 3) X.1 = true) (h4 : sm_in (i + 4) X.1 = true) (h5 : sm_in (i + 5) X.1 = true) (hn : nc + 8 ≤ 601024) (hs : ns + 64 ≤ 7293034)
    (hK : ∀ (A' : sA) (R' : Nat → List Nat) (t' d' : Nat) (I' : sm_MI) (J' : sm_MJ) (nc' ns' : Nat), ((t' = 21 ∧ d' = 41) ∨ (t' = 41 ∧ d' = 21)) → Rel A' R' t' I' I' → nc' ≤ nc + 8 → ns' ≤ ns + 64 → sm_W sm_sh X (sm_C sm_sh X sm_P D) me_304 Q (1540, [some (.ref 1000000), some (.ref 0), some (.ref 61), some (.ref 96), some (.int i), none, none, none], [], nc', ns') (I', J', sm_rf t' d')) : sm_W sm_sh X (sm_C sm_sh X sm_P D) me_304 Q (1458, [some (.ref 1000000), some (.ref 0), some (.ref 61), some (.ref 96), some (.int i), none, none, none], [], nc, ns) (I, J, sm_rf t d) := by
  have ht : t = 21 ∨ t = 41 := by omega
  obtain ⟨r, I1, v, I2, e1, e2, e3, e4⟩ := two1 (G := fun M => F_Mo_gone (X.2 (Int32.toNatClampNeg (i + 1))) M) h (fun M hM => q_gone hM (X.2 (Int32.toNatClampNeg (i + 1))))
  obtain ⟨k, J1, e5, e6⟩ := wr1 (J := J) e1 P_VM_gone
  have e7 : F_Law_gone t (X.2 (Int32.toNatClampNeg (i + 1))) I J = some (k, I1, J1) := e5
  obtain ⟨e5, e6⟩ := e6 v I2 e4
  refine sm_W.run (sm_C_mono D) 7 (G := sm_in (i + 1) X.1 = true ∧ True) (fr' := (1465, [some (.ref 1000000), some (.ref 0), some (.ref 61), some (.ref 96), some (.int i), none, none, none], [.ref 96, .int (X.2 (Int32.toNatClampNeg (i + 1))), .ref 0], nc, ns)) (M' := (I, J, sm_rf t d)) rfl ⟨h1, trivial⟩ ?_
  refine sm_W.cal (sm_C_mono D) (y := 302) (as := [.ref 0, .int (X.2 (Int32.toNatClampNeg (i + 1))), .ref 96]) (fr' := (1466, [some (.ref 1000000), some (.ref 0), some (.ref 61), some (.ref 96), some (.int i), none, none, none], [], nc + 1, ns + 6)) (st_cs (i := 272) (q := 2470) (a := 302) (b := 3) (t := [1, 6, 327]) rfl rfl rfl (by show _ + 1 ≤ 601024; omega) (by show _ + 6 ≤ 7293034; omega)) (T_Law_gone (by omega) ht e7 ?_)
  show sm_W sm_sh X (sm_C sm_sh X sm_P D) me_304 Q (1466, [some (.ref 1000000), some (.ref 0), some (.ref 61), some (.ref 96), some (.int i), none, none, none], [.int k], nc + 1, ns + 6) (I1, J1, sm_rf t d)
  refine sm_W.run (sm_C_mono D) 1 (G := True) (fr' := (1467, [some (.ref 1000000), some (.ref 0), some (.ref 61), some (.ref 96), some (.int i), some (.int k), none, none], [], nc + 1, ns + 6)) (M' := (I1, J1, sm_rf t d)) rfl trivial ?_
  refine sm_W.run (sm_C_mono D) 6 (G := sm_in (i + 1) X.1 = true ∧ True) (fr' := (1473, [some (.ref 1000000), some (.ref 0), some (.ref 61), some (.ref 96), some (.int i), some (.int k), none, none], [.int (X.2 (Int32.toNatClampNeg (i + 1))), .ref 61], nc + 1, ns + 6)) (M' := (I1, J1, sm_rf t d)) rfl ⟨h1, trivial⟩ ?_
  refine sm_W.cal (sm_C_mono D) (y := 250) (as := [.ref 61, .int (X.2 (Int32.toNatClampNeg (i + 1)))]) (fr' := (1474, [some (.ref 1000000), some (.ref 0), some (.ref 61), some (.ref 96), some (.int i), some (.int k), none, none], [], nc + 1, ns + 6)) (st_cv (i := 274) (q := 2482) (a := 250) (b := 2) (c := 13) (t := [0, 0, 328]) rfl rfl rfl (by show _ + 0 ≤ 601024; omega) (by show _ + 0 ≤ 7293034; omega) rfl) (T_Mo_gone (by omega) e2 ?_)
  show sm_W sm_sh X (sm_C sm_sh X sm_P D) me_304 Q (1474, [some (.ref 1000000), some (.ref 0), some (.ref 61), some (.ref 96), some (.int i), some (.int k), none, none], [.int v], nc + 1, ns + 6) (I2, J1, sm_rf t d)
  refine sm_W.run (sm_C_mono D) 2 (G := True) (fr' := (1476, [some (.ref 1000000), some (.ref 0), some (.ref 61), some (.ref 96), some (.int i), some (.int k), some (.int v), none], [.ref 61], nc + 1, ns + 6)) (M' := (I2, J1, sm_rf t d)) rfl trivial ?_
  refine sm_W.cal (sm_C_mono D) (y := 157) (as := [.ref 61]) (fr' := (1477, [some (.ref 1000000), some (.ref 0), some (.ref 61), some (.ref 96), some (.int i), some (.int k), some (.int v), none], [], nc + 1, ns + 6)) (st_cv (i := 135) (q := 2488) (a := 157) (b := 1) (c := 13) (t := [0, 0, 246]) rfl rfl rfl (by show _ + 0 ≤ 601024; omega) (by show _ + 0 ≤ 7293034; omega) rfl) (T_Mo_thrown (by omega) rfl ?_)
  show sm_W sm_sh X (sm_C sm_sh X sm_P D) me_304 Q (1477, [some (.ref 1000000), some (.ref 0), some (.ref 61), some (.ref 96), some (.int i), some (.int k), some (.int v), none], [.int (I2 61 0)], nc + 1, ns + 6) (I2, J1, sm_rf t d)
  refine sm_W.run (sm_C_mono D) 2 (G := True) (fr' := (if decide (I2 61 0 = k) = true then 1481 else 1479, [some (.ref 1000000), some (.ref 0), some (.ref 61), some (.ref 96), some (.int i), some (.int k), some (.int v), none], [], nc + 1, ns + 6)) (M' := (I2, J1, sm_rf t d)) rfl trivial ?_
  rw [if_pos (decide_eq_true e5)]
  refine sm_W.run (sm_C_mono D) 2 (G := True) (fr' := (if decide (¬ k = 0) = true then 1492 else 1483, [some (.ref 1000000), some (.ref 0), some (.ref 61), some (.ref 96), some (.int i), some (.int k), some (.int v), none], [], nc + 1, ns + 6)) (M' := (I2, J1, sm_rf t d)) rfl trivial ?_
  have fin : sm_W sm_sh X (sm_C sm_sh X sm_P D) me_304 Q (1492, [some (.ref 1000000), some (.ref 0), some (.ref 61), some (.ref 96), some (.int i), some (.int k), some (.int v), none], [], nc + 1, ns + 6) (I2, J1, sm_rf t d) := by
    refine sm_W.run (sm_C_mono D) 1 (G := True) (fr' := (1540, [some (.ref 1000000), some (.ref 0), some (.ref 61), some (.ref 96), some (.int i), some (.int k), some (.int v), none], [], nc + 1, ns + 6)) (M' := (I2, J1, sm_rf t d)) rfl trivial ?_
    exact sm_W.forget (L' := [some (.ref 1000000), some (.ref 0), some (.ref 61), some (.ref 96), some (.int i), none, none, none]) ⟨rfl, rfl, rfl, rfl, rfl, trivial⟩ (hK A R t d I2 J1 (nc + 1) (ns + 6) hd e3 (by omega) (by omega))
  by_cases hk : k = 0
  · rw [if_neg (by rw [decide_eq_true_eq]; exact fun z => z hk)]
    have e8 := e6 hk
    refine sm_W.run (sm_C_mono D) 7 (G := sm_in (0 : Int32) 1 = true ∧ True) (fr' := (if decide (lg_cmp (J1 96 0) (Int32.toInt64 v) = 0) = true then 1492 else 1490, [some (.ref 1000000), some (.ref 0), some (.ref 61), some (.ref 96), some (.int i), some (.int k), some (.int v), none], [], nc + 1, ns + 6)) (M' := (I2, J1, sm_rf t d)) rfl ⟨by decide, trivial⟩ ?_
    rw [if_pos (decide_eq_true (by rw [e8, lg_self]))]
    exact fin
  · rw [if_pos (decide_eq_true hk)]
    exact fin
set_option maxRecDepth 100000 in
theorem K_rows {A : sA} {R : Nat → List Nat} {t d D nc ns : Nat} {X : Nat × (Nat → Int32)} {Q : sm_Q} {I : sm_MI} {J : sm_MJ} {i : Int32} (hD : 80 ≤ D) (hd : (t = 21 ∧ d = 41) ∨ (t = 41 ∧ d = 21)) (h : Rel A R t I I) (h1 : sm_in (i + 1) X.1 = true) (h2 : sm_in (i + 2) X.1 = true) (h3 : sm_in (i + 3) X.1 = true) (h4 : sm_in (i + 4) X.1 = true) (h5 : sm_in (i + 5) X.1 = true) (hn : nc + 8 ≤ 601024) (hs : ns + 64 ≤ 7293034)
    (hK : ∀ (A' : sA) (R' : Nat → List Nat) (t' d' : Nat) (I' : sm_MI) (J' : sm_MJ) (nc' ns' : Nat), ((t' = 21 ∧ d' = 41) ∨ (t' = 41 ∧ d' = 21)) → Rel A' R' t' I' I' → nc' ≤ nc + 8 → ns' ≤ ns + 64 → sm_W sm_sh X (sm_C sm_sh X sm_P D) me_304 Q (1540, [some (.ref 1000000), some (.ref 0), some (.ref 61), some (.ref 96), some (.int i), none, none, none], [], nc', ns') (I', J', sm_rf t' d')) : sm_W sm_sh X (sm_C sm_sh X sm_P D) me_304 Q (1493, [some (.ref 1000000), some (.ref 0), some (.ref 61), some (.ref 96), some (.int i), none, none, none], [], nc, ns) (I, J, sm_rf t d) := by
  have ht : t = 21 ∨ t = 41 := by omega
  obtain ⟨r, e1, hq⟩ := q_rows h (X.2 (Int32.toNatClampNeg (i + 1)))
  obtain ⟨v, I2, e2, e3, e4⟩ := two0 h hq
  obtain ⟨k, J1, e5, e6⟩ := wr0 (J := J) e1 P_VM_rows
  have e7 : F_Law_rows t (X.2 (Int32.toNatClampNeg (i + 1))) I J = some (k, J1) := e5
  obtain ⟨e5, e6⟩ := e6 v I2 e4
  refine sm_W.run (sm_C_mono D) 7 (G := sm_in (i + 1) X.1 = true ∧ True) (fr' := (1500, [some (.ref 1000000), some (.ref 0), some (.ref 61), some (.ref 96), some (.int i), none, none, none], [.ref 96, .int (X.2 (Int32.toNatClampNeg (i + 1))), .ref 0], nc, ns)) (M' := (I, J, sm_rf t d)) rfl ⟨h1, trivial⟩ ?_
  refine sm_W.cal (sm_C_mono D) (y := 303) (as := [.ref 0, .int (X.2 (Int32.toNatClampNeg (i + 1))), .ref 96]) (fr' := (1501, [some (.ref 1000000), some (.ref 0), some (.ref 61), some (.ref 96), some (.int i), none, none, none], [], nc + 1, ns + 6)) (st_cs (i := 275) (q := 2526) (a := 303) (b := 3) (t := [1, 6, 329]) rfl rfl rfl (by show _ + 1 ≤ 601024; omega) (by show _ + 6 ≤ 7293034; omega)) (T_Law_rows (by omega) ht e7 ?_)
  show sm_W sm_sh X (sm_C sm_sh X sm_P D) me_304 Q (1501, [some (.ref 1000000), some (.ref 0), some (.ref 61), some (.ref 96), some (.int i), none, none, none], [.int k], nc + 1, ns + 6) (I, J1, sm_rf t d)
  refine sm_W.run (sm_C_mono D) 1 (G := True) (fr' := (1502, [some (.ref 1000000), some (.ref 0), some (.ref 61), some (.ref 96), some (.int i), some (.int k), none, none], [], nc + 1, ns + 6)) (M' := (I, J1, sm_rf t d)) rfl trivial ?_
  refine sm_W.run (sm_C_mono D) 6 (G := sm_in (i + 1) X.1 = true ∧ True) (fr' := (1508, [some (.ref 1000000), some (.ref 0), some (.ref 61), some (.ref 96), some (.int i), some (.int k), none, none], [.int (X.2 (Int32.toNatClampNeg (i + 1))), .ref 61], nc + 1, ns + 6)) (M' := (I, J1, sm_rf t d)) rfl ⟨h1, trivial⟩ ?_
  refine sm_W.cal (sm_C_mono D) (y := 251) (as := [.ref 61, .int (X.2 (Int32.toNatClampNeg (i + 1)))]) (fr' := (1509, [some (.ref 1000000), some (.ref 0), some (.ref 61), some (.ref 96), some (.int i), some (.int k), none, none], [], nc + 1, ns + 6)) (st_cv (i := 277) (q := 2538) (a := 251) (b := 2) (c := 13) (t := [0, 0, 330]) rfl rfl rfl (by show _ + 0 ≤ 601024; omega) (by show _ + 0 ≤ 7293034; omega) rfl) (T_Mo_rows (by omega) e2 ?_)
  show sm_W sm_sh X (sm_C sm_sh X sm_P D) me_304 Q (1509, [some (.ref 1000000), some (.ref 0), some (.ref 61), some (.ref 96), some (.int i), some (.int k), none, none], [.int v], nc + 1, ns + 6) (I2, J1, sm_rf t d)
  refine sm_W.run (sm_C_mono D) 2 (G := True) (fr' := (1511, [some (.ref 1000000), some (.ref 0), some (.ref 61), some (.ref 96), some (.int i), some (.int k), some (.int v), none], [.ref 61], nc + 1, ns + 6)) (M' := (I2, J1, sm_rf t d)) rfl trivial ?_
  refine sm_W.cal (sm_C_mono D) (y := 157) (as := [.ref 61]) (fr' := (1512, [some (.ref 1000000), some (.ref 0), some (.ref 61), some (.ref 96), some (.int i), some (.int k), some (.int v), none], [], nc + 1, ns + 6)) (st_cv (i := 135) (q := 2544) (a := 157) (b := 1) (c := 13) (t := [0, 0, 246]) rfl rfl rfl (by show _ + 0 ≤ 601024; omega) (by show _ + 0 ≤ 7293034; omega) rfl) (T_Mo_thrown (by omega) rfl ?_)
  show sm_W sm_sh X (sm_C sm_sh X sm_P D) me_304 Q (1512, [some (.ref 1000000), some (.ref 0), some (.ref 61), some (.ref 96), some (.int i), some (.int k), some (.int v), none], [.int (I2 61 0)], nc + 1, ns + 6) (I2, J1, sm_rf t d)
  refine sm_W.run (sm_C_mono D) 2 (G := True) (fr' := (if decide (I2 61 0 = k) = true then 1516 else 1514, [some (.ref 1000000), some (.ref 0), some (.ref 61), some (.ref 96), some (.int i), some (.int k), some (.int v), none], [], nc + 1, ns + 6)) (M' := (I2, J1, sm_rf t d)) rfl trivial ?_
  rw [if_pos (decide_eq_true e5)]
  refine sm_W.run (sm_C_mono D) 2 (G := True) (fr' := (if decide (¬ k = 0) = true then 1527 else 1518, [some (.ref 1000000), some (.ref 0), some (.ref 61), some (.ref 96), some (.int i), some (.int k), some (.int v), none], [], nc + 1, ns + 6)) (M' := (I2, J1, sm_rf t d)) rfl trivial ?_
  have fin : sm_W sm_sh X (sm_C sm_sh X sm_P D) me_304 Q (1527, [some (.ref 1000000), some (.ref 0), some (.ref 61), some (.ref 96), some (.int i), some (.int k), some (.int v), none], [], nc + 1, ns + 6) (I2, J1, sm_rf t d) := by
    refine sm_W.run (sm_C_mono D) 1 (G := True) (fr' := (1540, [some (.ref 1000000), some (.ref 0), some (.ref 61), some (.ref 96), some (.int i), some (.int k), some (.int v), none], [], nc + 1, ns + 6)) (M' := (I2, J1, sm_rf t d)) rfl trivial ?_
    exact sm_W.forget (L' := [some (.ref 1000000), some (.ref 0), some (.ref 61), some (.ref 96), some (.int i), none, none, none]) ⟨rfl, rfl, rfl, rfl, rfl, trivial⟩ (hK A R t d I2 J1 (nc + 1) (ns + 6) hd e3 (by omega) (by omega))
  by_cases hk : k = 0
  · rw [if_neg (by rw [decide_eq_true_eq]; exact fun z => z hk)]
    have e8 := e6 hk
    refine sm_W.run (sm_C_mono D) 7 (G := sm_in (0 : Int32) 1 = true ∧ True) (fr' := (if decide (lg_cmp (J1 96 0) (Int32.toInt64 v) = 0) = true then 1527 else 1525, [some (.ref 1000000), some (.ref 0), some (.ref 61), some (.ref 96), some (.int i), some (.int k), some (.int v), none], [], nc + 1, ns + 6)) (M' := (I2, J1, sm_rf t d)) rfl ⟨by decide, trivial⟩ ?_
    rw [if_pos (decide_eq_true (by rw [e8, lg_self]))]
    exact fin
  · rw [if_pos (decide_eq_true hk)]
    exact fin
set_option maxRecDepth 100000 in
theorem K_image {A : sA} {R : Nat → List Nat} {t d D nc ns : Nat} {X : Nat × (Nat → Int32)} {Q : sm_Q} {I : sm_MI} {J : sm_MJ} {i : Int32} (hD : 80 ≤ D) (hd : (t = 21 ∧ d = 41) ∨ (t = 41 ∧ d = 21)) (h : Rel A R t I I) (h1 : sm_in (i + 1) X.1 = true) (h2 : sm_in (i + 2) X.1 = true) (h3 : sm_in (i + 3) X.1 = true) (h4 : sm_in (i + 4) X.1 = true) (h5 : sm_in (i + 5) X.1 = true) (hn : nc + 8 ≤ 601024) (hs : ns + 64 ≤ 7293034)
    (hK : ∀ (A' : sA) (R' : Nat → List Nat) (t' d' : Nat) (I' : sm_MI) (J' : sm_MJ) (nc' ns' : Nat), ((t' = 21 ∧ d' = 41) ∨ (t' = 41 ∧ d' = 21)) → Rel A' R' t' I' I' → nc' ≤ nc + 8 → ns' ≤ ns + 64 → sm_W sm_sh X (sm_C sm_sh X sm_P D) me_304 Q (1540, [some (.ref 1000000), some (.ref 0), some (.ref 61), some (.ref 96), some (.int i), none, none, none], [], nc', ns') (I', J', sm_rf t' d')) : sm_W sm_sh X (sm_C sm_sh X sm_P D) me_304 Q (1528, [some (.ref 1000000), some (.ref 0), some (.ref 61), some (.ref 96), some (.int i), none, none, none], [], nc, ns) (I, J, sm_rf t d) := by
  have ht : t = 21 ∨ t = 41 := by omega
  obtain ⟨I1, I2, e1, e2, e3⟩ := twoV (G := fun M => F_Mo_image M) h (fun M hM => x_image hM)
  refine sm_W.run (sm_C_mono D) 1 (G := True) (fr' := (1529, [some (.ref 1000000), some (.ref 0), some (.ref 61), some (.ref 96), some (.int i), none, none, none], [.ref 0], nc, ns)) (M' := (I, J, sm_rf t d)) rfl trivial ?_
  refine sm_W.cal (sm_C_mono D) (y := 120) (as := [.ref 0]) (fr' := (1530, [some (.ref 1000000), some (.ref 0), some (.ref 61), some (.ref 96), some (.int i), none, none, none], [], nc, ns)) (st_cv (i := 278) (q := 2575) (a := 120) (b := 1) (c := 12) (t := [0, 0, 331]) rfl rfl rfl (by show _ + 0 ≤ 601024; omega) (by show _ + 0 ≤ 7293034; omega) rfl) (T_VM_image (by omega) e1 ?_)
  show sm_W sm_sh X (sm_C sm_sh X sm_P D) me_304 Q (1530, [some (.ref 1000000), some (.ref 0), some (.ref 61), some (.ref 96), some (.int i), none, none, none], [], nc, ns) (I1, J, sm_rf t d)
  refine sm_W.run (sm_C_mono D) 1 (G := True) (fr' := (1531, [some (.ref 1000000), some (.ref 0), some (.ref 61), some (.ref 96), some (.int i), none, none, none], [.ref 61], nc, ns)) (M' := (I1, J, sm_rf t d)) rfl trivial ?_
  refine sm_W.cal (sm_C_mono D) (y := 266) (as := [.ref 61]) (fr' := (1532, [some (.ref 1000000), some (.ref 0), some (.ref 61), some (.ref 96), some (.int i), none, none, none], [], nc, ns)) (st_cv (i := 281) (q := 2579) (a := 266) (b := 1) (c := 13) (t := [0, 0, 332]) rfl rfl rfl (by show _ + 0 ≤ 601024; omega) (by show _ + 0 ≤ 7293034; omega) rfl) (T_Mo_image (by omega) e2 ?_)
  show sm_W sm_sh X (sm_C sm_sh X sm_P D) me_304 Q (1532, [some (.ref 1000000), some (.ref 0), some (.ref 61), some (.ref 96), some (.int i), none, none, none], [], nc, ns) (I2, J, sm_rf t d)
  refine sm_W.run (sm_C_mono D) 1 (G := True) (fr' := (1540, [some (.ref 1000000), some (.ref 0), some (.ref 61), some (.ref 96), some (.int i), none, none, none], [], nc, ns)) (M' := (I2, J, sm_rf t d)) rfl trivial ?_
  exact hK A R t d I2 J nc ns hd e3 (by omega) (by omega)
set_option maxRecDepth 100000 in
theorem K_restore {A : sA} {R : Nat → List Nat} {t d D nc ns : Nat} {X : Nat × (Nat → Int32)} {Q : sm_Q} {I : sm_MI} {J : sm_MJ} {i : Int32} (hD : 80 ≤ D) (hd : (t = 21 ∧ d = 41) ∨ (t = 41 ∧ d = 21)) (h : Rel A R t I I) (h1 : sm_in (i + 1) X.1 = true) (h2 : sm_in (i + 2) X.1 = true) (h3 : sm_in (i + 3) X.1 = true) (h4 : sm_in (i + 4) X.1 = true) (h5 : sm_in (i + 5) X.1 = true) (hn : nc + 8 ≤ 601024) (hs : ns + 64 ≤ 7293034)
    (hK : ∀ (A' : sA) (R' : Nat → List Nat) (t' d' : Nat) (I' : sm_MI) (J' : sm_MJ) (nc' ns' : Nat), ((t' = 21 ∧ d' = 41) ∨ (t' = 41 ∧ d' = 21)) → Rel A' R' t' I' I' → nc' ≤ nc + 8 → ns' ≤ ns + 64 → sm_W sm_sh X (sm_C sm_sh X sm_P D) me_304 Q (1540, [some (.ref 1000000), some (.ref 0), some (.ref 61), some (.ref 96), some (.int i), none, none, none], [], nc', ns') (I', J', sm_rf t' d')) : sm_W sm_sh X (sm_C sm_sh X sm_P D) me_304 Q (1533, [some (.ref 1000000), some (.ref 0), some (.ref 61), some (.ref 96), some (.int i), none, none, none], [], nc, ns) (I, J, sm_rf t d) := by
  have ht : t = 21 ∨ t = 41 := by omega
  obtain ⟨r, I1, v, I2, e1, e2, e3, e4⟩ := twoA (G := fun M => F_Mo_restore  M) h (fun M hM => x_restore hM )
  have e9 : v = r := e4.1
  subst e9
  refine sm_W.run (sm_C_mono D) 1 (G := True) (fr' := (1534, [some (.ref 1000000), some (.ref 0), some (.ref 61), some (.ref 96), some (.int i), none, none, none], [.ref 0], nc, ns)) (M' := (I, J, sm_rf t d)) rfl trivial ?_
  refine sm_W.cal (sm_C_mono D) (y := 121) (as := [.ref 0]) (fr' := (1535, [some (.ref 1000000), some (.ref 0), some (.ref 61), some (.ref 96), some (.int i), none, none, none], [], nc, ns)) (st_cv (i := 282) (q := 2586) (a := 121) (b := 1) (c := 12) (t := [0, 0, 333]) rfl rfl rfl (by show _ + 0 ≤ 601024; omega) (by show _ + 0 ≤ 7293034; omega) rfl) (T_VM_restore (by omega) e1 ?_)
  show sm_W sm_sh X (sm_C sm_sh X sm_P D) me_304 Q (1535, [some (.ref 1000000), some (.ref 0), some (.ref 61), some (.ref 96), some (.int i), none, none, none], [.int v], nc, ns) (I1, J, sm_rf t d)
  refine sm_W.run (sm_C_mono D) 1 (G := True) (fr' := (1536, [some (.ref 1000000), some (.ref 0), some (.ref 61), some (.ref 96), some (.int i), none, none, none], [.ref 61, .int v], nc, ns)) (M' := (I1, J, sm_rf t d)) rfl trivial ?_
  refine sm_W.cal (sm_C_mono D) (y := 267) (as := [.ref 61]) (fr' := (1537, [some (.ref 1000000), some (.ref 0), some (.ref 61), some (.ref 96), some (.int i), none, none, none], [.int v], nc, ns)) (st_cv (i := 286) (q := 2590) (a := 267) (b := 1) (c := 13) (t := [0, 0, 334]) rfl rfl rfl (by show _ + 0 ≤ 601024; omega) (by show _ + 0 ≤ 7293034; omega) rfl) (T_Mo_restore (by omega) e2 ?_)
  show sm_W sm_sh X (sm_C sm_sh X sm_P D) me_304 Q (1537, [some (.ref 1000000), some (.ref 0), some (.ref 61), some (.ref 96), some (.int i), none, none, none], [.int v, .int v], nc, ns) (I2, J, sm_rf t d)
  refine sm_W.run (sm_C_mono D) 1 (G := True) (fr' := (if decide (v = v) = true then 1540 else 1538, [some (.ref 1000000), some (.ref 0), some (.ref 61), some (.ref 96), some (.int i), none, none, none], [], nc, ns)) (M' := (I2, J, sm_rf t d)) rfl trivial ?_
  rw [if_pos (decide_eq_true rfl)]
  exact hK A R t d I2 J nc ns hd e3 (by omega) (by omega)
