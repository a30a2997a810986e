/-! ===== the law's loop ===== -/
theorem and63 (x : Int32) : ∃ m, m < 64 ∧ x &&& 63 = nI m := by
  refine ⟨(x &&& 63).toBitVec.toNat, ?_, ?_⟩
  · have e : (x &&& 63).toBitVec.toNat = x.toBitVec.toNat &&& 63 := rfl
    rw [e]
    have := Nat.and_le_right (n := x.toBitVec.toNat) (m := 63)
    omega
  · apply Int32.toBitVec_inj.1
    show (x &&& 63).toBitVec = BitVec.ofNat 32 (x &&& 63).toBitVec.toNat
    rw [BitVec.ofNat_toNat, BitVec.setWidth_eq]
theorem hd_lt {l q : Nat} (hl : l ≤ 3072) (hq : q ≤ 1000) : (nI l - 6 < nI (6 * q)) ↔ l < 6 * q + 6 := by
  rw [Int32.lt_iff_toInt_lt, Int32.toInt_sub, nI_toInt (by omega), nI_toInt (by omega), show (6 : Int32).toInt = 6 from rfl, Int.bmod_eq_of_le (by omega) (by omega)]
  omega
theorem sw_hi : ∀ m, m < 64 → 46 ≤ m → sm_sw (nI m).toInt 0 [25, 82, 117, 124, 159, 204, 259, 304, 321, 359, 397, 435, 483, 490, 525, 560, 567, 602, 609, 616, 623, 678, 722, 767, 832, 867, 872, 917, 972, 1017, 1052, 1059, 1094, 1129, 1174, 1219, 1264, 1271, 1305, 1343, 1378, 1423, 1458, 1493, 1528, 1533] 1540 = 1540 := by decide +kernel
set_option maxRecDepth 100000 in
theorem law_loop {D : Nat} {X : Nat × (Nat → Int32)} {Q : sm_Q} (hD : 80 ≤ D) (hX : X.1 ≤ 3072) (hQ : ∀ M, Q (.inl (some (.int 1))) M) : ∀ (j q : Nat) (A : sA) (R : Nat → List Nat) (t d : Nat) (I : sm_MI) (J : sm_MJ) (nc ns : Nat), q ≤ 1000 → X.1 ≤ 6 * (q + j) + 5 → ((t = 21 ∧ d = 41) ∨ (t = 41 ∧ d = 21)) → Rel A R t I I → nc + 8 * j ≤ 601024 → ns + 64 * j ≤ 7293034 → sm_W sm_sh X (sm_C sm_sh X sm_P D) me_304 Q (13, [some (.ref 1000000), some (.ref 0), some (.ref 61), some (.ref 96), some (.int (nI (6 * q))), none, none, none], [], nc, ns) (I, J, sm_rf t d) := by
  intro j
  induction j with
  | zero =>
    intro q A R t d I J nc ns hq hx hd h hn hs
    refine sm_W.run (sm_C_mono D) 6 (G := True) (fr' := (if decide (nI X.1 - 6 < nI (6 * q)) = true then 1542 else 19, [some (.ref 1000000), some (.ref 0), some (.ref 61), some (.ref 96), some (.int (nI (6 * q))), none, none, none], [], nc, ns)) (M' := (I, J, sm_rf t d)) rfl trivial ?_
    have out : sm_W sm_sh X (sm_C sm_sh X sm_P D) me_304 Q (1542, [some (.ref 1000000), some (.ref 0), some (.ref 61), some (.ref 96), some (.int (nI (6 * q))), none, none, none], [], nc, ns) (I, J, sm_rf t d) := by
      refine sm_W.run (sm_C_mono D) 1 (G := True) (fr' := (1543, [some (.ref 1000000), some (.ref 0), some (.ref 61), some (.ref 96), some (.int (nI (6 * q))), none, none, none], [.int (1 : Int32)], nc, ns)) (M' := (I, J, sm_rf t d)) rfl trivial ?_
      refine sm_W.ret (sm_C_mono D) (st_rt (q := 2605) (b := 0) (c := 0) (t := []) rfl (by show _ ≤ 601024; omega) (by show _ ≤ 7293034; omega)) ?_
      rw [nar1]
      exact hQ _
    rw [if_pos (decide_eq_true ((hd_lt hX hq).mpr (by omega)))]
    exact out
  | succ j ih =>
    intro q A R t d I J nc ns hq hx hd h hn hs
    refine sm_W.run (sm_C_mono D) 6 (G := True) (fr' := (if decide (nI X.1 - 6 < nI (6 * q)) = true then 1542 else 19, [some (.ref 1000000), some (.ref 0), some (.ref 61), some (.ref 96), some (.int (nI (6 * q))), none, none, none], [], nc, ns)) (M' := (I, J, sm_rf t d)) rfl trivial ?_
    have out : sm_W sm_sh X (sm_C sm_sh X sm_P D) me_304 Q (1542, [some (.ref 1000000), some (.ref 0), some (.ref 61), some (.ref 96), some (.int (nI (6 * q))), none, none, none], [], nc, ns) (I, J, sm_rf t d) := by
      refine sm_W.run (sm_C_mono D) 1 (G := True) (fr' := (1543, [some (.ref 1000000), some (.ref 0), some (.ref 61), some (.ref 96), some (.int (nI (6 * q))), none, none, none], [.int (1 : Int32)], nc, ns)) (M' := (I, J, sm_rf t d)) rfl trivial ?_
      refine sm_W.ret (sm_C_mono D) (st_rt (q := 2605) (b := 0) (c := 0) (t := []) rfl (by show _ ≤ 601024; omega) (by show _ ≤ 7293034; omega)) ?_
      rw [nar1]
      exact hQ _
    by_cases hl : X.1 < 6 * q + 6
    · rw [if_pos (decide_eq_true ((hd_lt hX hq).mpr hl))]
      exact out
    rw [if_neg (by rw [decide_eq_true_eq]; exact fun z => hl ((hd_lt hX hq).mp z))]
    have hin : ∀ m, m < 6 → sm_in (nI (6 * q) + nI m) X.1 = true := fun m hm => by rw [nI_add]; exact sn_in' (by omega) (by omega)
    have h1 : sm_in (nI (6 * q) + 1) X.1 = true := hin 1 (by omega)
    have h2 : sm_in (nI (6 * q) + 2) X.1 = true := hin 2 (by omega)
    have h3 : sm_in (nI (6 * q) + 3) X.1 = true := hin 3 (by omega)
    have h4 : sm_in (nI (6 * q) + 4) X.1 = true := hin 4 (by omega)
    have h5 : sm_in (nI (6 * q) + 5) X.1 = true := hin 5 (by omega)
    have hn' : nc + 8 ≤ 601024 := by omega
    have hs' : ns + 64 ≤ 7293034 := by omega
    have hK : ∀ (A' : sA) (R' : Nat → List Nat) (t' d' : Nat) (I' : sm_MI) (J' : sm_MJ) (nc' ns' : Nat), ((t' = 21 ∧ d' = 41) ∨ (t' = 41 ∧ d' = 21)) → Rel A' R' t' I' I' → nc' ≤ nc + 8 → ns' ≤ ns + 64 → sm_W sm_sh X (sm_C sm_sh X sm_P D) me_304 Q (1540, [some (.ref 1000000), some (.ref 0), some (.ref 61), some (.ref 96), some (.int (nI (6 * q))), none, none, none], [], nc', ns') (I', J', sm_rf t' d') := by
      intro A' R' t' d' I' J' nc' ns' g1 g2 g3 g4
      refine sm_W.run (sm_C_mono D) 2 (G := True) (fr' := (13, [some (.ref 1000000), some (.ref 0), some (.ref 61), some (.ref 96), some (.int (nI (6 * q) + 6)), none, none, none], [], nc', ns')) (M' := (I', J', sm_rf t' d')) rfl trivial ?_
      rw [show nI (6 * q) + 6 = nI (6 * (q + 1)) from nI_add (6 * q) 6]
      exact ih (q + 1) A' R' t' d' I' J' nc' ns' (by omega) (by omega) g1 g2 (by omega) (by omega)
    obtain ⟨m, hm, em⟩ := and63 (X.2 (Int32.toNatClampNeg (nI (6 * q))))
    refine sm_W.run (sm_C_mono D) 6 (G := sm_in (nI (6 * q)) X.1 = true ∧ True) (fr' := (sm_sw (X.2 (Int32.toNatClampNeg (nI (6 * q))) &&& 63).toInt 0 [25, 82, 117, 124, 159, 204, 259, 304, 321, 359, 397, 435, 483, 490, 525, 560, 567, 602, 609, 616, 623, 678, 722, 767, 832, 867, 872, 917, 972, 1017, 1052, 1059, 1094, 1129, 1174, 1219, 1264, 1271, 1305, 1343, 1378, 1423, 1458, 1493, 1528, 1533] 1540, [some (.ref 1000000), some (.ref 0), some (.ref 61), some (.ref 96), some (.int (nI (6 * q))), none, none, none], [], nc, ns)) (M' := (I, J, sm_rf t d)) rfl ⟨sn_in' (by omega) (by omega), trivial⟩ ?_
    rw [em]
    have go : ∀ m' p, m = m' → sm_sw (nI m').toInt 0 [25, 82, 117, 124, 159, 204, 259, 304, 321, 359, 397, 435, 483, 490, 525, 560, 567, 602, 609, 616, 623, 678, 722, 767, 832, 867, 872, 917, 972, 1017, 1052, 1059, 1094, 1129, 1174, 1219, 1264, 1271, 1305, 1343, 1378, 1423, 1458, 1493, 1528, 1533] 1540 = p → sm_W sm_sh X (sm_C sm_sh X sm_P D) me_304 Q (p, [some (.ref 1000000), some (.ref 0), some (.ref 61), some (.ref 96), some (.int (nI (6 * q))), none, none, none], [], nc, ns) (I, J, sm_rf t d) → sm_W sm_sh X (sm_C sm_sh X sm_P D) me_304 Q (sm_sw (nI m).toInt 0 [25, 82, 117, 124, 159, 204, 259, 304, 321, 359, 397, 435, 483, 490, 525, 560, 567, 602, 609, 616, 623, 678, 722, 767, 832, 867, 872, 917, 972, 1017, 1052, 1059, 1094, 1129, 1174, 1219, 1264, 1271, 1305, 1343, 1378, 1423, 1458, 1493, 1528, 1533] 1540, [some (.ref 1000000), some (.ref 0), some (.ref 61), some (.ref 96), some (.int (nI (6 * q))), none, none, none], [], nc, ns) (I, J, sm_rf t d) := fun m' p e1 e2 e3 => by
      rw [e1, e2]; exact e3
    by_cases m0 : m = 0
    · exact go 0 25 m0 (by decide +kernel) (K_feed hD hd h h1 h2 h3 h4 h5 hn' hs' hK)
    by_cases m1 : m = 1
    · exact go 1 82 m1 (by decide +kernel) (K_valley hD hd h h1 h2 h3 h4 h5 hn' hs' hK)
    by_cases m2 : m = 2
    · exact go 2 117 m2 (by decide +kernel) (K_fault hD hd h h1 h2 h3 h4 h5 hn' hs' hK)
    by_cases m3 : m = 3
    · exact go 3 124 m3 (by decide +kernel) (K_count hD hd h h1 h2 h3 h4 h5 hn' hs' hK)
    by_cases m4 : m = 4
    · exact go 4 159 m4 (by decide +kernel) (K_singer hD hd h h1 h2 h3 h4 h5 hn' hs' hK)
    by_cases m5 : m = 5
    · exact go 5 204 m5 (by decide +kernel) (K_row hD hd h h1 h2 h3 h4 h5 hn' hs' hK)
    by_cases m6 : m = 6
    · exact go 6 259 m6 (by decide +kernel) (K_able hD hd h h1 h2 h3 h4 h5 hn' hs' hK)
    by_cases m7 : m = 7
    · exact go 7 304 m7 (by decide +kernel) (K_days hD hd h h1 h2 h3 h4 h5 hn' hs' hK)
    by_cases m8 : m = 8
    · exact go 8 321 m8 (by decide +kernel) (K_fall hD hd h h1 h2 h3 h4 h5 hn' hs' hK)
    by_cases m9 : m = 9
    · exact go 9 359 m9 (by decide +kernel) (K_catches hD hd h h1 h2 h3 h4 h5 hn' hs' hK)
    by_cases m10 : m = 10
    · exact go 10 397 m10 (by decide +kernel) (K_release hD hd h h1 h2 h3 h4 h5 hn' hs' hK)
    by_cases m11 : m = 11
    · exact go 11 435 m11 (by decide +kernel) (K_exchange hD hd h h1 h2 h3 h4 h5 hn' hs' hK)
    by_cases m12 : m = 12
    · exact go 12 483 m12 (by decide +kernel) (K_undo hD hd h h1 h2 h3 h4 h5 hn' hs' hK)
    by_cases m13 : m = 13
    · exact go 13 490 m13 (by decide +kernel) (K_moved hD hd h h1 h2 h3 h4 h5 hn' hs' hK)
    by_cases m14 : m = 14
    · exact go 14 525 m14 (by decide +kernel) (K_spare hD hd h h1 h2 h3 h4 h5 hn' hs' hK)
    by_cases m15 : m = 15
    · exact go 15 560 m15 (by decide +kernel) (K_keys hD hd h h1 h2 h3 h4 h5 hn' hs' hK)
    by_cases m16 : m = 16
    · exact go 16 567 m16 (by decide +kernel) (K_ransom hD hd h h1 h2 h3 h4 h5 hn' hs' hK)
    by_cases m17 : m = 17
    · exact go 17 602 m17 (by decide +kernel) (K_peace hD hd h h1 h2 h3 h4 h5 hn' hs' hK)
    by_cases m18 : m = 18
    · exact go 18 609 m18 (by decide +kernel) (K_silent hD hd h h1 h2 h3 h4 h5 hn' hs' hK)
    by_cases m19 : m = 19
    · exact go 19 616 m19 (by decide +kernel) (K_duet hD hd h h1 h2 h3 h4 h5 hn' hs' hK)
    by_cases m20 : m = 20
    · exact go 20 623 m20 (by decide +kernel) (K_luck hD hd h h1 h2 h3 h4 h5 hn' hs' hK)
    by_cases m21 : m = 21
    · exact go 21 678 m21 (by decide +kernel) (K_codes hD hd h h1 h2 h3 h4 h5 hn' hs' hK)
    by_cases m22 : m = 22
    · exact go 22 722 m22 (by decide +kernel) (K_slips hD hd h h1 h2 h3 h4 h5 hn' hs' hK)
    by_cases m23 : m = 23
    · exact go 23 767 m23 (by decide +kernel) (K_hear hD hd h h1 h2 h3 h4 h5 hn' hs' hK)
    by_cases m24 : m = 24
    · exact go 24 832 m24 (by decide +kernel) (K_flat hD hd h h1 h2 h3 h4 h5 hn' hs' hK)
    by_cases m25 : m = 25
    · exact go 25 867 m25 (by decide +kernel) (K_forget hD hd h h1 h2 h3 h4 h5 hn' hs' hK)
    by_cases m26 : m = 26
    · exact go 26 872 m26 (by decide +kernel) (K_game hD hd h h1 h2 h3 h4 h5 hn' hs' hK)
    by_cases m27 : m = 27
    · exact go 27 917 m27 (by decide +kernel) (K_wars hD hd h h1 h2 h3 h4 h5 hn' hs' hK)
    by_cases m28 : m = 28
    · exact go 28 972 m28 (by decide +kernel) (K_cast hD hd h h1 h2 h3 h4 h5 hn' hs' hK)
    by_cases m29 : m = 29
    · exact go 29 1017 m29 (by decide +kernel) (K_transposed hD hd h h1 h2 h3 h4 h5 hn' hs' hK)
    by_cases m30 : m = 30
    · exact go 30 1052 m30 (by decide +kernel) (K_evening hD hd h h1 h2 h3 h4 h5 hn' hs' hK)
    by_cases m31 : m = 31
    · exact go 31 1059 m31 (by decide +kernel) (K_standIns hD hd h h1 h2 h3 h4 h5 hn' hs' hK)
    by_cases m32 : m = 32
    · exact go 32 1094 m32 (by decide +kernel) (K_falls hD hd h h1 h2 h3 h4 h5 hn' hs' hK)
    by_cases m33 : m = 33
    · exact go 33 1129 m33 (by decide +kernel) (K_voices hD hd h h1 h2 h3 h4 h5 hn' hs' hK)
    by_cases m34 : m = 34
    · exact go 34 1174 m34 (by decide +kernel) (K_lacking hD hd h h1 h2 h3 h4 h5 hn' hs' hK)
    by_cases m35 : m = 35
    · exact go 35 1219 m35 (by decide +kernel) (K_widen hD hd h h1 h2 h3 h4 h5 hn' hs' hK)
    by_cases m36 : m = 36
    · exact go 36 1264 m36 (by decide +kernel) (K_bargain hD hd h h1 h2 h3 h4 h5 hn' hs' hK)
    by_cases m37 : m = 37
    · exact go 37 1271 m37 (by decide +kernel) (K_casts hD hd h h1 h2 h3 h4 h5 hn' hs' hK)
    by_cases m38 : m = 38
    · exact go 38 1305 m38 (by decide +kernel) (K_holds hD hd h h1 h2 h3 h4 h5 hn' hs' hK)
    by_cases m39 : m = 39
    · exact go 39 1343 m39 (by decide +kernel) (K_aimed hD hd h h1 h2 h3 h4 h5 hn' hs' hK)
    by_cases m40 : m = 40
    · exact go 40 1378 m40 (by decide +kernel) (K_held hD hd h h1 h2 h3 h4 h5 hn' hs' hK)
    by_cases m41 : m = 41
    · exact go 41 1423 m41 (by decide +kernel) (K_lost hD hd h h1 h2 h3 h4 h5 hn' hs' hK)
    by_cases m42 : m = 42
    · exact go 42 1458 m42 (by decide +kernel) (K_gone hD hd h h1 h2 h3 h4 h5 hn' hs' hK)
    by_cases m43 : m = 43
    · exact go 43 1493 m43 (by decide +kernel) (K_rows hD hd h h1 h2 h3 h4 h5 hn' hs' hK)
    by_cases m44 : m = 44
    · exact go 44 1528 m44 (by decide +kernel) (K_image hD hd h h1 h2 h3 h4 h5 hn' hs' hK)
    by_cases m45 : m = 45
    · exact go 45 1533 m45 (by decide +kernel) (K_restore hD hd h h1 h2 h3 h4 h5 hn' hs' hK)
    exact go m 1540 rfl (sw_hi m hm (by omega)) (hK A R t d I J nc ns hd h (by omega) (by omega))
