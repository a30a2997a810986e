/-! ===== a line, whichever it is ===== -/
theorem mkw_ot0 : ∀ κ, κ < 24 → 11 ≤ κ → (mkw κ < 10 ∨ 20 < mkw κ) := by decide +kernel
theorem mkw_ot {κ : Nat} (h : 11 ≤ κ) : mkw κ < 10 ∨ 20 < mkw κ := by
  by_cases h2 : κ < 24
  · exact mkw_ot0 κ h2 h
  · rw [mkw_no (by omega)]; decide
theorem mkw_lo {κ : Nat} (h : κ ≤ 10) : mkw κ = nI (κ + 10) := by unfold mkw; rw [if_pos h]
section LN
variable {b : Nat → Nat} {n k u a d : Nat} {A : sA} {R : Nat → List Nat} {ev : Bool} {C C' C2 M M' M2 : sm_MI} {J J' : sm_MJ}
theorem l_other {v : Int32} (h : v < 10 ∨ 20 < v) : (if v < 10 then F_Mo_line_13 v M J else if 12 < v then F_Mo_line_13 v M J else sd_q2 (F_Mo_readsSinger v M J) fun I2 J3 => F_Mo_line_86 I2 J3) = sd_q1 (F_Mo_wrong 1 M) fun I1 => F_Mo_line_86 I1 J := by
  have lt : ∀ {x y : Int32}, x < y → x.toInt < y.toInt := fun h => Int32.lt_iff_toInt_lt.mp h
  have gt : ∀ {x y : Int32}, x.toInt < y.toInt → x < y := fun h => Int32.lt_iff_toInt_lt.mpr h
  have c10 : (10 : Int32).toInt = 10 := rfl
  have c12 : (12 : Int32).toInt = 12 := rfl
  have c13 : (13 : Int32).toInt = 13 := rfl
  have c16 : (16 : Int32).toInt = 16 := rfl
  have c20 : (20 : Int32).toInt = 20 := rfl
  have hv : v.toInt < 10 ∨ 20 < v.toInt := h.imp (fun z => by have := lt z; omega) (fun z => by have := lt z; omega)
  have e13 : F_Mo_line_13 v M J = F_Mo_line_25 v M J := by
    unfold F_Mo_line_13
    rcases hv with z | z
    · rw [if_pos (gt (by omega))]
    · rw [if_neg (fun y => by have := lt y; omega), if_pos (gt (by omega))]
  have e25 : F_Mo_line_25 v M J = sd_q1 (F_Mo_wrong 1 M) fun I1 => F_Mo_line_86 I1 J := by
    unfold F_Mo_line_25
    rw [if_pos (fun y => by rw [y] at hv; revert hv; decide), if_pos (fun y => by rw [y] at hv; revert hv; decide), if_neg (fun y => by rw [y] at hv; revert hv; decide), if_pos (fun y => by rw [y] at hv; revert hv; decide)]
  rcases hv with z | z
  · rw [if_pos (gt (by omega)), e13, e25]
  · rw [if_neg (fun y => by have := lt y; omega), if_pos (gt (by omega)), e13, e25]
theorem l_line (h : ls b n k A R ev u a d C M J) (hk : kk b n k ≠ 33) : lres b n d k C M J (F_Reader_readLine d C) (F_Mo_line M J) := by
  have hc := ls_ck h
  have hm := ls_mk h
  have hlt := hc.lt
  have kn := hk
  have ap := c_atPart hc.2.2 hlt
  have em : F_Mo_line M J = (if mkw (kk b n k) < 10 then F_Mo_line_13 (mkw (kk b n k)) M J else if 12 < mkw (kk b n k) then F_Mo_line_13 (mkw (kk b n k)) M J else sd_q2 (F_Mo_readsSinger (mkw (kk b n k)) M J) fun I2 J3 => F_Mo_line_86 I2 J3) := by
    unfold F_Mo_line
    rw [q1_of hm.1.kw]
  rw [em]
  unfold F_Reader_readLine
  rw [hc.2.2, if_neg (nI_pos (by omega))]
  by_cases e1 : kk b n k ≤ 2
  · rw [if_neg (show ¬ (2 : Int32) < nI (kk b n k) from nI_nlt (a := 2) e1 (by omega)), mkw_lo (by omega), if_neg (show ¬ nI (kk b n k + 10) < 10 from nI_nlt (b := 10) (by omega) (by omega)), if_neg (show ¬ (12 : Int32) < nI (kk b n k + 10) from nI_nlt (a := 12) (by omega) (by omega))]
    exact l_singer h e1
  rw [if_pos (show (2 : Int32) < nI (kk b n k) from nI_lt (a := 2) (by omega) (by omega))]
  unfold F_Reader_readLine_19
  rw [q1_of ap]
  by_cases e2 : kk b n k ≤ 6
  · rw [if_pos (show 3 ≤ kk b n k ∧ kk b n k ≤ 6 by omega), if_neg (show ¬ (1 : Int32) = 0 by decide), mkw_lo (by omega), if_neg (show ¬ nI (kk b n k + 10) < 10 from nI_nlt (b := 10) (by omega) (by omega)), if_pos (show (12 : Int32) < nI (kk b n k + 10) from nI_lt (a := 12) (by omega) (by omega))]
    unfold F_Mo_line_13
    rw [if_neg (show ¬ nI (kk b n k + 10) < 13 from nI_nlt (b := 13) (by omega) (by omega)), if_neg (show ¬ (16 : Int32) < nI (kk b n k + 10) from nI_nlt (a := 16) (by omega) (by omega)), show nI (kk b n k + 10) - 13 = nI (kk b n k - 3) from by rw [show (13 : Int32) = nI 13 from rfl, x_sub (by omega), show kk b n k + 10 - 13 = kk b n k - 3 by omega]]
    exact l_row h (by omega) e2
  rw [if_neg (show ¬ (3 ≤ kk b n k ∧ kk b n k ≤ 6) by omega), if_pos rfl, hc.2.2]
  by_cases e3 : kk b n k ≤ 10
  · rw [mkw_lo e3, if_neg (show ¬ nI (kk b n k + 10) < 10 from nI_nlt (b := 10) (by omega) (by omega)), if_pos (show (12 : Int32) < nI (kk b n k + 10) from nI_lt (a := 12) (by omega) (by omega))]
    unfold F_Mo_line_13
    rw [if_neg (show ¬ nI (kk b n k + 10) < 13 from nI_nlt (b := 13) (by omega) (by omega)), if_pos (show (16 : Int32) < nI (kk b n k + 10) from nI_lt (a := 16) (by omega) (by omega))]
    rcases (show kk b n k = 7 ∨ kk b n k = 8 ∨ kk b n k = 9 ∨ kk b n k = 10 by omega) with z | z | z | z
    · rw [z, if_pos (show nI 7 = 7 from rfl)]
      exact l_piece h hk
    · rw [z, if_neg (show ¬ nI 8 = 7 by decide), if_pos (show nI 8 = 8 from rfl)]
      exact l_every h hk
    · rw [z, if_neg (show ¬ nI 9 = 7 by decide), if_neg (show ¬ nI 9 = 8 by decide), if_pos (show nI 9 = 9 from rfl)]
      unfold F_Mo_line_25
      rw [if_pos (show ¬ nI (9 + 10) = 17 by decide), if_pos (show ¬ nI (9 + 10) = 18 by decide), if_pos (show nI (9 + 10) = 19 from rfl)]
      exact l_rule (q := 0) (off := 0) (nv := 6) h hk (by omega)
    · rw [z, if_neg (show ¬ nI 10 = 7 by decide), if_neg (show ¬ nI 10 = 8 by decide), if_neg (show ¬ nI 10 = 9 by decide), if_pos (show nI 10 = 10 from rfl)]
      unfold F_Mo_line_25
      rw [if_pos (show ¬ nI (10 + 10) = 17 by decide), if_pos (show ¬ nI (10 + 10) = 18 by decide), if_neg (show ¬ nI (10 + 10) = 19 by decide), if_neg (sn_nn (show nI (10 + 10) = 20 from rfl))]
      exact l_rule (q := 1) (off := 6) (nv := 4) h hk (by omega)
  have hn := kk_n hk
  have hn7 := hm.1.1.1
  rw [l_other (mkw_ot (by omega))]
  obtain ⟨M1, w1, w2, w3⟩ := mk_wrong (e := 1) hm (by omega)
  have ne : ∀ v : Nat, v < 11 → ¬ nI (kk b n k) = nI v := fun v hv z => by have := (nI_eq (by omega) (by omega)).mp z; omega
  refine lres_bad (e := 1) (k' := k) (C' := sd_up C 3 7 (nI 1)) (M' := M1) (J' := J) ?_ ?_ (fC.refl.up (by omega)) w3.fM jsm.refl (by omega) (cbad_f hc) w2
  · rw [if_neg (show ¬ nI (kk b n k) = 7 from ne 7 (by omega)), if_neg (show ¬ nI (kk b n k) = 8 from ne 8 (by omega)), if_neg (show ¬ nI (kk b n k) = 9 from ne 9 (by omega)), if_neg (show ¬ nI (kk b n k) = 10 from ne 10 (by omega)), q2_of (show F_Reader_fail 1 C = _ from c_fail (e := 1)), nar0]
  · rw [q1_of (show F_Mo_wrong 1 M = _ from w1)]
    exact m_86b w2
end LN
