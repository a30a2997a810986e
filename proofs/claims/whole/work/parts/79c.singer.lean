/-! ===== the singer's line ===== -/
def sgA (A : sA) (v : Nat → Nat) : sA := fun x y => if x = 0 then (if y = 0 then A 0 0 + 1 else A 0 y) else if x ≤ 5 then (if y = A 0 0 then v x else A x y) else A x y
theorem mkw_pt {κ : Nat} : (3 ≤ κ ∧ κ ≤ 6 ∧ mkw κ = nI (κ + 10)) ∨ (¬ (3 ≤ κ ∧ κ ≤ 6) ∧ (mkw κ < 13 ∨ ¬ mkw κ ≤ 16)) := by
  by_cases h : κ < 24
  · have key : ∀ κ, κ < 24 → (3 ≤ κ ∧ κ ≤ 6 ∧ mkw κ = nI (κ + 10)) ∨ (¬ (3 ≤ κ ∧ κ ≤ 6) ∧ (mkw κ < 13 ∨ ¬ mkw κ ≤ 16)) := by decide +kernel
    exact key κ h
  · rw [mkw_no (by omega)]
    exact Or.inr ⟨by omega, Or.inl (by decide)⟩
theorem c_atPart {κ : Nat} {C : sm_MI} (h : C 3 2 = nI κ) (hκ : κ < 20000) : F_Reader_atPart C = some (if 3 ≤ κ ∧ κ ≤ 6 then 1 else 0) := by
  unfold F_Reader_atPart
  rw [h]
  by_cases e1 : κ < 3
  · rw [if_pos (show nI κ < 3 from nI_lt (b := 3) e1 (by omega)), if_neg (by omega)]
  · rw [if_neg (show ¬ nI κ < 3 from nI_nlt (b := 3) (by omega) (by omega))]
    by_cases e2 : 6 < κ
    · rw [if_pos (show (6 : Int32) < nI κ from nI_lt (a := 6) e2 (by omega)), if_neg (by omega)]
    · rw [if_neg (show ¬ (6 : Int32) < nI κ from nI_nlt (a := 6) (by omega) (by omega)), if_pos (by omega)]
section LN
variable {b : Nat → Nat} {n k u a d : Nat} {A : sA} {R : Nat → List Nat} {ev : Bool} {C C' C2 M M' M2 : sm_MI} {J J' : sm_MJ}
theorem wA_singer {v : Nat → Nat} (h : wA A) (h0 : A 0 0 < 14) (h1 : v 1 ≤ 2) (h2 : v 2 ≤ 3) (h3 : v 3 ≤ v 4) (h4 : v 4 ≤ 48) (h5 : v 5 ≤ 9) : wA (sgA A v) := by
  obtain ⟨w1, w2, w3, w4, w5, w6⟩ := h
  refine ⟨show A 0 0 + 1 ≤ 14 by omega, w2, w3, w4, fun s hs => ?_, w6⟩
  have hs : s < A 0 0 + 1 := hs
  show (if s = A 0 0 then v 1 else A 1 s) ≤ 2 ∧ (if s = A 0 0 then v 2 else A 2 s) ≤ 3 ∧ (if s = A 0 0 then v 3 else A 3 s) ≤ (if s = A 0 0 then v 4 else A 4 s) ∧ (if s = A 0 0 then v 4 else A 4 s) ≤ 48 ∧ (if s = A 0 0 then v 5 else A 5 s) ≤ 9
  by_cases e : s = A 0 0
  · simp only [if_pos e]
    exact ⟨h1, h2, h3, h4, h5⟩
  · simp only [if_neg e]
    exact w5 s (by omega)
theorem l_singer (h : ls b n k A R ev u a d C M J) (hk : kk b n k ≤ 2) : lres b n d k C M J (cend (F_Reader_readSinger d C)) (sd_q2 (F_Mo_readsSinger (nI (kk b n k + 10)) M J) fun I J => F_Mo_line_86 I J) := by
  have hh := h
  obtain ⟨⟨hc, hm⟩, ⟨hw, hev, hrw⟩, ⟨h3, h4⟩, ⟨h5, h6⟩, ⟨h7, h8, h9⟩, hd⟩ := h
  have hn := kk_n (b := b) (n := n) (k := k) (by omega)
  have hn7 := hm.1.1.1
  have wp := hw.1
  unfold F_Reader_readSinger F_Reader_readSinger_8 F_Mo_readsSinger F_Mo_readsSinger_7
  conv => arg 8; rw [h3.1.1, y_lt, if_neg (nI_pos (by omega))]
  conv => arg 9; rw [h4.1.1]
  by_cases e : A 0 0 < 14
  · conv => arg 8; rw [if_pos (show nI (A 0 0) < 14 from nI_lt (b := 14) e (by omega)), sn_gu (sn_in' e (by omega)), nI_clamp (by omega), hc.2.2, show nI (kk b n k) - 0 = nI (kk b n k) from Int32.sub_zero _, y_lt]
    conv => arg 9; rw [if_pos (show ¬ nI (A 0 0) = 14 from fun z => by have := (nI_eq (b := 14) (by omega) (by omega)).mp z; omega), q1_of hm.good, if_pos (show ¬ (1 : Int32) = 0 by decide)]
    have hc1 : ck b n k (sd_up C (d + 1) (A 0 0) (nI (kk b n k))) := ck_up hc (by omega)
    obtain ⟨C2, s1, s2, s3, s4⟩ := ck_step hc1 (by omega)
    obtain ⟨M1, J1, g1, g2, g3, g4⟩ := mk_goes hm
    have m27 : M1 61 27 = nI (A 0 0) := by rw [g3.2 27 (by omega)]; exact h4.1.1
    have hm2 : mk b n (k + 1) (sd_up M1 74 (A 0 0) (nI (kk b n k))) J1 := mk_up g2 (by omega)
    conv => arg 8; rw [q1_of s1, q1_of (c_atPart s2.2.2 s2.lt)]
    conv => arg 9; rw [q2_of g1, m27, y_lt, sn_gu (sn_in' e (by omega)), nI_clamp (by omega), show nI (kk b n k + 10) - 10 = nI (kk b n k) from by rw [show (10 : Int32) = nI 10 from rfl, x_sub (by omega), Nat.add_sub_cancel], y_lt, q1_of hm2.1.kw]
    have fc2 : fC d C C2 := (fC.refl.up (by omega)).trans s3.fC
    have fm2 : fM M (sd_up M1 74 (A 0 0) (nI (kk b n k))) := g3.m3.fM.up (by omega)
    generalize hM2 : sd_up M1 74 (A 0 0) (nI (kk b n k)) = M2 at hm2 fm2
    unfold F_Mo_readsSinger_35 F_Mo_readsSinger_32
    rcases mkw_pt (κ := kk b n (k + 1)) with ⟨p1, p2, p3⟩ | ⟨p1, p2⟩
    · have hn1 := kk_n (b := b) (n := n) (k := k + 1) (by omega)
      have hc3 : ck b n (k + 1) (sd_up C2 (d + 2) (A 0 0) (nI (kk b n (k + 1) - 3))) := ck_up s2 (by omega)
      obtain ⟨C4, t1, t2, t3, t4⟩ := ck_step hc3 (by omega)
      have hm3 : mk b n (k + 1) (sd_up M2 75 (A 0 0) (nI (kk b n (k + 1) - 3))) J1 := mk_up hm2 (by omega)
      obtain ⟨M4, J4, r1, r2, r3, r4⟩ := mk_goes hm3
      obtain ⟨q5, C5, f1, f2, f3⟩ := c_numr (x := 0) (y := 48) t2 (by omega) (by omega) (by omega)
      obtain ⟨v5, M5, J5, v1, v2, v3, v4⟩ := m_numr (x := 0) (y := 48) r2 (by omega) (by omega)
      have fc5 : fC d C C5 := ((fc2.up (by omega)).trans t3.fC).trans f2.fC
      have fm5 : fM M M5 := ((fm2.up (by omega)).trans r3.m3.fM).trans v2.fM
      have j5 : jsm J J5 := (g4.trans r4).trans v3
      conv => arg 8; rw [if_pos (show 3 ≤ kk b n (k + 1) ∧ kk b n (k + 1) ≤ 6 from ⟨p1, p2⟩), if_pos (show ¬ (1 : Int32) = 0 by decide), sn_gu (sn_in' e (by omega)), s2.2.2, show nI (kk b n (k + 1)) - 3 = nI (kk b n (k + 1) - 3) from x_sub (b := 3) p1, y_lt, q1_of t1, q2_of (show F_Reader_readNumber 0 48 C4 = _ from f1)]
      conv => arg 9; rw [p3, if_neg (show ¬ nI (kk b n (k + 1) + 10) < 13 from nI_nlt (b := 13) (by omega) (by omega)), if_pos (show nI (kk b n (k + 1) + 10) ≤ 16 from nI_le (b := 16) (by omega) (by omega)), q1_of hm2.good, if_pos (show ¬ (1 : Int32) = 0 by decide), sn_gu (sn_in' e (by omega)), show nI (kk b n (k + 1) + 10) - 13 = nI (kk b n (k + 1) - 3) from by rw [show (13 : Int32) = nI 13 from rfl, x_sub (by omega), show kk b n (k + 1) + 10 - 13 = kk b n (k + 1) - 3 by omega], nI_clamp (by omega), y_lt, q2_of r1, q3_of (show F_Mo_number 0 48 M4 J4 = _ from v1), sn_gu (sn_in' e (by omega)), y_lt]
      rcases f3 with ⟨rfl, z3, y1, y2, y3⟩ | ⟨rfl, y1, y2⟩
      · rcases v4 with ⟨z', x1, x2, x3⟩ | ⟨x1, -⟩
        · rw [y1] at x1
          cases x1
          subst x2
          obtain ⟨a1, a2, a3⟩ := nm_some y1
          have hn2 := kk_n (b := b) (n := n) (k := k + 1 + 1) (by omega)
          have hc6 : ck b n (k + 1 + 1 + 1) (sd_up C5 (d + 3) (A 0 0) (nI z3)) := ck_up y3 (by omega)
          have hm6 : mk b n (k + 1 + 1 + 1) (sd_up M5 76 (A 0 0) (nI z3)) J5 := mk_up x3 (by omega)
          obtain ⟨q7, C7, f1', f2', f3'⟩ := c_numr (x := z3) (y := 48) hc6 (by omega) (by omega) (by omega)
          obtain ⟨v7, M7, J7, v1', v2', v3', v4'⟩ := m_numr (x := z3) (y := 48) hm6 (by omega) (by omega)
          have fc7 : fC d C C7 := (fc5.up (by omega)).trans f2'.fC
          have fm7 : fM M M7 := (fm5.up (by omega)).trans v2'.fM
          have e33 : sd_up C5 (d + 3) (A 0 0) (nI z3) 3 3 = nI z3 := by rw [up_n (by omega)]; exact y2
          conv => arg 8; rw [if_pos (show ¬ (1 : Int32) = 0 by decide), sn_gu (sn_in' e (by omega)), y2, y_lt, e33, q2_of (show F_Reader_readNumber (nI z3) 48 _ = _ from f1')]
          conv => arg 9; rw [sn_gu (sn_in' e (by omega)), show sd_up M5 76 (A 0 0) (nI z3) 76 (A 0 0) = nI z3 from up_s, q3_of (show F_Mo_number (nI z3) 48 _ J5 = _ from v1'), sn_gu (sn_in' e (by omega)), y_lt]
          rcases f3' with ⟨rfl, z4, y1', y2', y3'⟩ | ⟨rfl, y1', y2'⟩
          · rcases v4' with ⟨z', x1', x2', x3'⟩ | ⟨x1', -⟩
            · rw [y1'] at x1'
              cases x1'
              subst x2'
              obtain ⟨b1, b2, b3⟩ := nm_some y1'
              have hn3 := kk_n (b := b) (n := n) (k := k + 1 + 1 + 1) (by omega)
              have hc8 : ck b n (k + 1 + 1 + 1 + 1) (sd_up C7 (d + 4) (A 0 0) (nI z4)) := ck_up y3' (by omega)
              have hm8 : mk b n (k + 1 + 1 + 1 + 1) (sd_up M7 77 (A 0 0) (nI z4)) J7 := mk_up x3' (by omega)
              obtain ⟨q9, C9, f1'', f2'', f3''⟩ := c_numr (x := 0) (y := 9) hc8 (by omega) (by omega) (by omega)
              obtain ⟨v9, M9, J9, v1'', v2'', v3'', v4''⟩ := m_numr (x := 0) (y := 9) hm8 (by omega) (by omega)
              have fc9 : fC d C C9 := (fc7.up (by omega)).trans f2''.fC
              have fm9 : fM M M9 := (fm7.up (by omega)).trans v2''.fM
              conv => arg 8; rw [if_pos (show ¬ (1 : Int32) = 0 by decide), sn_gu (sn_in' e (by omega)), y2', y_lt, q2_of (show F_Reader_readNumber 0 9 _ = _ from f1'')]
              conv => arg 9; rw [q3_of (show F_Mo_number 0 9 _ J7 = _ from v1''), sn_gu (sn_in' e (by omega)), y_lt]
              rcases f3'' with ⟨rfl, z5, y1'', y2'', y3''⟩ | ⟨rfl, y1'', y2''⟩
              · rcases v4'' with ⟨z', x1'', x2'', x3''⟩ | ⟨x1'', -⟩
                · rw [y1''] at x1''
                  cases x1''
                  subst x2''
                  obtain ⟨c1, c2, c3'⟩ := nm_some y1''
                  have hn4 := kk_n (b := b) (n := n) (k := k + 1 + 1 + 1 + 1) (by omega)
                  have hm10 : mk b n (k + 1 + 1 + 1 + 1 + 1) (sd_up M9 78 (A 0 0) (nI z5)) J9 := mk_up x3'' (by omega)
                  have m27' : sd_up M9 78 (A 0 0) (nI z5) 61 27 = nI (A 0 0) := by
                    rw [up_n (by omega), v2''.2 27 (by omega), up_n (by omega), v2'.2 27 (by omega), up_n (by omega), v2.2 27 (by omega), r3.2 27 (by omega), up_n (by omega), ← hM2, up_n (by omega)]; exact m27
                  conv => arg 8; rw [if_pos (show ¬ (1 : Int32) = 0 by decide), sn_gu (sn_in' e (by omega)), y2'', y_lt, show nI (A 0 0) + 1 = nI (A 0 0 + 1) from nI_add _ 1, y_lt]
                  conv => arg 9; rw [q1_of hm10.good, if_neg (by decide), m27', show nI (A 0 0) + 1 = nI (A 0 0 + 1) from nI_add _ 1, y_lt, y_q2]
                  have cc : ∀ j, j ≠ 3 → j ≠ d → j ≠ d + 1 → j ≠ d + 2 → j ≠ d + 3 → j ≠ d + 4 → j ≠ d + 5 → sd_up (sd_up C9 (d + 5) (A 0 0) (nI z5)) d 0 (nI (A 0 0 + 1)) j = C j := fun j j1 j2 j3 j4 j5 j6 j7 => by
                    rw [up_n j2, up_n j7, f2''.1 j j1, up_n j6, f2'.1 j j1, up_n j5, f2.1 j j1, t3.1 j j1, up_n j4, s3.1 j j1, up_n j3]
                  have mm : ∀ j, j ≠ 61 → j ≠ 74 → j ≠ 75 → j ≠ 76 → j ≠ 77 → j ≠ 78 → sd_up (sd_up M9 78 (A 0 0) (nI z5)) 61 27 (nI (A 0 0 + 1)) j = M j := fun j j1 j2 j3 j4 j5 j6 => by
                    rw [up_n j1, up_n j6, v2''.1 j j1, up_n j5, v2'.1 j j1, up_n j4, v2.1 j j1, r3.1 j j1, up_n j3, ← hM2, up_n j2, g3.1 j j1]
                  have mj : ∀ j, 25 < j → j ≠ 27 → sd_up (sd_up M9 78 (A 0 0) (nI z5)) 61 27 (nI (A 0 0 + 1)) 61 j = M 61 j := fun j j1 j2 => by
                    rw [up_m j2, up_n (by omega), v2''.2 j (by omega), up_n (by omega), v2'.2 j (by omega), up_n (by omega), v2.2 j (by omega), r3.2 j (by omega), up_n (by omega), ← hM2, up_n (by omega), g3.2 j (by omega)]
                  have hnew : ls b n (k + 1 + 1 + 1 + 1 + 1) (sgA A (fun x => if x = 1 then kk b n k else if x = 2 then kk b n (k + 1) - 3 else if x = 3 then z3 else if x = 4 then z4 else z5)) R ev u a d (sd_up (sd_up C9 (d + 5) (A 0 0) (nI z5)) d 0 (nI (A 0 0 + 1))) (sd_up (sd_up M9 78 (A 0 0) (nI z5)) 61 27 (nI (A 0 0 + 1))) J9 := by
                    refine ⟨⟨ck_up (ck_up y3'' (by omega)) (by omega), mk_up hm10 (by omega)⟩, ⟨wA_singer hw e hk (show kk b n (k + 1) - 3 ≤ 3 by omega) b1 b2 c2, hev, hrw⟩, ⟨?_, ?_⟩, ⟨crl_of h5 (fun j _ _ => cc j (by omega) (by omega) (by omega) (by omega) (by omega) (by omega) (by omega)), mrl_of h6 (mj 30 (by omega) (by omega)) (mm 82 (by omega) (by omega) (by omega) (by omega) (by omega) (by omega)) (mm 83 (by omega) (by omega) (by omega) (by omega) (by omega) (by omega))⟩, ⟨by omega, h8, by omega⟩, hd⟩
                    · obtain ⟨⟨i0, i1, i2⟩, i4, i5, i6⟩ := h3
                      have dd : ∀ j, C9 d j = C d j := fun j => by rw [f2''.1 d (by omega), up_n (by omega), f2'.1 d (by omega), up_n (by omega), f2.1 d (by omega), t3.1 d (by omega), up_n (by omega), s3.1 d (by omega), up_n (by omega)]
                      refine ⟨⟨up_s, ?_, ?_⟩, fun s hs => ?_, fun r hr => ?_, ?_⟩
                      · rw [up_m (by omega), up_n (by omega), dd]; exact i1
                      · rw [up_m (by omega), up_n (by omega), dd]; exact i2
                      · have hs : s < A 0 0 + 1 := hs
                        show _ = nI (if s = A 0 0 then kk b n k else A 1 s) ∧ _ = nI (if s = A 0 0 then kk b n (k + 1) - 3 else A 2 s) ∧ _ = nI (if s = A 0 0 then z3 else A 3 s) ∧ _ = nI (if s = A 0 0 then z4 else A 4 s) ∧ _ = nI (if s = A 0 0 then z5 else A 5 s)
                        rw [up_n (show d + 1 ≠ d by omega), up_n (show d + 1 ≠ d + 5 by omega), f2''.1 (d + 1) (by omega), up_n (show d + 1 ≠ d + 4 by omega), f2'.1 (d + 1) (by omega), up_n (show d + 1 ≠ d + 3 by omega), f2.1 (d + 1) (by omega), t3.1 (d + 1) (by omega), up_n (show d + 1 ≠ d + 2 by omega), s3.1 (d + 1) (by omega),
                          up_n (show d + 2 ≠ d by omega), up_n (show d + 2 ≠ d + 5 by omega), f2''.1 (d + 2) (by omega), up_n (show d + 2 ≠ d + 4 by omega), f2'.1 (d + 2) (by omega), up_n (show d + 2 ≠ d + 3 by omega), f2.1 (d + 2) (by omega), t3.1 (d + 2) (by omega),
                          up_n (show d + 3 ≠ d by omega), up_n (show d + 3 ≠ d + 5 by omega), f2''.1 (d + 3) (by omega), up_n (show d + 3 ≠ d + 4 by omega), f2'.1 (d + 3) (by omega), up_n (show d + 4 ≠ d by omega), up_n (show d + 4 ≠ d + 5 by omega), f2''.1 (d + 4) (by omega), up_n (show d + 5 ≠ d by omega)]
                        by_cases es : s = A 0 0
                        · simp only [if_pos es]
                          rw [es]
                          exact ⟨up_s, up_s, up_s, up_s, up_s⟩
                        · simp only [if_neg es]
                          obtain ⟨o1, o2, o3, o4, o5⟩ := i4 s (by omega)
                          rw [up_m es, up_m es, up_m es, up_m es, up_m es, o1, s3.1 (d + 2) (by omega), up_n (by omega), o2, f2.1 (d + 3) (by omega), t3.1 (d + 3) (by omega), up_n (by omega), s3.1 (d + 3) (by omega), up_n (by omega), o3, f2'.1 (d + 4) (by omega), up_n (by omega), f2.1 (d + 4) (by omega), t3.1 (d + 4) (by omega), up_n (by omega), s3.1 (d + 4) (by omega), up_n (by omega), o4,
                            f2''.1 (d + 5) (by omega), up_n (by omega), f2'.1 (d + 5) (by omega), up_n (by omega), f2.1 (d + 5) (by omega), t3.1 (d + 5) (by omega), up_n (by omega), s3.1 (d + 5) (by omega), up_n (by omega), o5]
                          exact ⟨rfl, rfl, rfl, rfl, rfl⟩
                      · rw [cc (d + 6) (by omega) (by omega) (by omega) (by omega) (by omega) (by omega) (by omega), cc (d + 7) (by omega) (by omega) (by omega) (by omega) (by omega) (by omega) (by omega), cc (d + 8) (by omega) (by omega) (by omega) (by omega) (by omega) (by omega) (by omega), cc (d + 11) (by omega) (by omega) (by omega) (by omega) (by omega) (by omega) (by omega)]
                        exact i5 r hr
                      · rw [up_n (by omega), up_n (by omega), f2''.2 4 (by omega) (by omega) (by omega) (by omega), up_n (by omega), f2'.2 4 (by omega) (by omega) (by omega) (by omega), up_n (by omega), f2.2 4 (by omega) (by omega) (by omega) (by omega), t4 4 (by omega) (by omega), up_n (by omega), s4 4 (by omega) (by omega), up_n (by omega)]
                        exact i6
                    · obtain ⟨⟨i0, i1, i2⟩, i4, i5⟩ := h4
                      refine ⟨⟨up_s, ?_, ?_⟩, fun s hs => ?_, fun r hr => ?_⟩
                      · rw [mj 28 (by omega) (by omega)]; exact i1
                      · rw [mj 29 (by omega) (by omega)]; exact i2
                      · have hs : s < A 0 0 + 1 := hs
                        show _ = nI (if s = A 0 0 then kk b n k else A 1 s) ∧ _ = nI (if s = A 0 0 then kk b n (k + 1) - 3 else A 2 s) ∧ _ = nI (if s = A 0 0 then z3 else A 3 s) ∧ _ = nI (if s = A 0 0 then z4 else A 4 s) ∧ _ = nI (if s = A 0 0 then z5 else A 5 s)
                        rw [up_n (show (74:Nat) ≠ 61 by omega), up_n (show (74:Nat) ≠ 78 by omega), v2''.1 74 (by omega), up_n (show (74:Nat) ≠ 77 by omega), v2'.1 74 (by omega), up_n (show (74:Nat) ≠ 76 by omega), v2.1 74 (by omega), r3.1 74 (by omega), up_n (show (74:Nat) ≠ 75 by omega), ← hM2,
                          up_n (show (75:Nat) ≠ 61 by omega), up_n (show (75:Nat) ≠ 78 by omega), v2''.1 75 (by omega), up_n (show (75:Nat) ≠ 77 by omega), v2'.1 75 (by omega), up_n (show (75:Nat) ≠ 76 by omega), v2.1 75 (by omega), r3.1 75 (by omega),
                          up_n (show (76:Nat) ≠ 61 by omega), up_n (show (76:Nat) ≠ 78 by omega), v2''.1 76 (by omega), up_n (show (76:Nat) ≠ 77 by omega), v2'.1 76 (by omega), up_n (show (77:Nat) ≠ 61 by omega), up_n (show (77:Nat) ≠ 78 by omega), v2''.1 77 (by omega), up_n (show (78:Nat) ≠ 61 by omega)]
                        by_cases es : s = A 0 0
                        · simp only [if_pos es]
                          rw [es]
                          exact ⟨up_s, up_s, up_s, up_s, up_s⟩
                        · simp only [if_neg es]
                          obtain ⟨o1, o2, o3, o4, o5⟩ := i4 s (by omega)
                          rw [up_m es, up_m es, up_m es, up_m es, up_m es, g3.1 74 (by omega), o1, ← hM2, up_n (by omega), g3.1 75 (by omega), o2, v2.1 76 (by omega), r3.1 76 (by omega), up_n (by omega), ← hM2, up_n (by omega), g3.1 76 (by omega), o3, v2'.1 77 (by omega), up_n (by omega), v2.1 77 (by omega), r3.1 77 (by omega), up_n (by omega), ← hM2, up_n (by omega), g3.1 77 (by omega), o4,
                            v2''.1 78 (by omega), up_n (by omega), v2'.1 78 (by omega), up_n (by omega), v2.1 78 (by omega), r3.1 78 (by omega), up_n (by omega), ← hM2, up_n (by omega), g3.1 78 (by omega), o5]
                          exact ⟨rfl, rfl, rfl, rfl, rfl⟩
                      · rw [mm 79 (by omega) (by omega) (by omega) (by omega) (by omega) (by omega), mm 80 (by omega) (by omega) (by omega) (by omega) (by omega) (by omega), mm 81 (by omega) (by omega) (by omega) (by omega) (by omega) (by omega)]
                        exact i5 r hr
                  exact (l_end hnew).from ((fc9.up (by omega)).up (by omega)) ((fm9.up (by omega)).up (by omega)) ((j5.trans v3').trans v3'') (by omega)
                · rw [y1''] at x1''; cases x1''
              · rcases v4'' with ⟨z', x1'', -⟩ | ⟨x1'', x2''⟩
                · rw [y1''] at x1''; cases x1''
                · have bd : mbad b n _ (k + 1 + 1 + 1 + 1) (sd_up M9 78 (A 0 0) v9) := mbad_up x2'' (by omega)
                  refine lres_bad (C' := C9) (M' := sd_up M9 78 (A 0 0) v9) (J' := J9) ?_ ?_ fc9 (fm9.up (by omega)) ((j5.trans v3').trans v3'') (by omega) y2'' bd
                  · rw [if_neg (sn_nn rfl)]; unfold cend; rw [y_q2, if_pos rfl]
                  · rw [q1_of bd.bad, if_pos rfl, y_q2]; exact m_86b bd
            · rw [y1'] at x1'; cases x1'
          · rcases v4' with ⟨z', x1', -⟩ | ⟨x1', x2'⟩
            · rw [y1'] at x1'; cases x1'
            · have bd0 : mbad b n _ (k + 1 + 1 + 1) (sd_up M7 77 (A 0 0) v7) := mbad_up x2' (by omega)
              have bd : mbad b n _ (k + 1 + 1 + 1) (sd_up (sd_up M7 77 (A 0 0) v7) 78 (A 0 0) 0) := mbad_up bd0 (by omega)
              refine lres_bad (C' := C7) (M' := sd_up (sd_up M7 77 (A 0 0) v7) 78 (A 0 0) 0) (J' := J7) ?_ ?_ fc7 ((fm7.up (by omega)).up (by omega)) (j5.trans v3') (by omega) y2' bd
              · rw [if_neg (sn_nn rfl)]; unfold cend; rw [y_q2, if_pos rfl]
              · rw [q3_of (m_num0 bd0), sn_gu (sn_in' e (by omega)), y_lt, q1_of bd.bad, if_pos rfl, y_q2]; exact m_86b bd
        · rw [y1] at x1; cases x1
      · rcases v4 with ⟨z', x1, -⟩ | ⟨x1, x2⟩
        · rw [y1] at x1; cases x1
        · have bd00 : mbad b n _ (k + 1 + 1) (sd_up M5 76 (A 0 0) v5) := mbad_up x2 (by omega)
          have bd0 : mbad b n _ (k + 1 + 1) (sd_up (sd_up M5 76 (A 0 0) v5) 77 (A 0 0) 0) := mbad_up bd00 (by omega)
          have bd : mbad b n _ (k + 1 + 1) (sd_up (sd_up (sd_up M5 76 (A 0 0) v5) 77 (A 0 0) 0) 78 (A 0 0) 0) := mbad_up bd0 (by omega)
          refine lres_bad (C' := C5) (M' := sd_up (sd_up (sd_up M5 76 (A 0 0) v5) 77 (A 0 0) 0) 78 (A 0 0) 0) (J' := J5) ?_ ?_ fc5 (((fm5.up (by omega)).up (by omega)).up (by omega)) j5 (by omega) y2 bd
          · rw [if_neg (sn_nn rfl)]; unfold cend; rw [y_q2, if_pos rfl]
          · rw [sn_gu (sn_in' e (by omega)), q3_of (m_num0 bd00), sn_gu (sn_in' e (by omega)), y_lt, q3_of (m_num0 bd0), sn_gu (sn_in' e (by omega)), y_lt, q1_of bd.bad, if_pos rfl, y_q2]; exact m_86b bd
    · obtain ⟨M3, w1, w2, w3⟩ := mk_wrong (e := 1) hm2 (by omega)
      refine lres_bad (e := 1) (k' := k + 1) (C' := sd_up C2 3 7 (nI 1)) (M' := M3) (J' := J1) ?_ ?_ (fc2.up (by omega)) (fm2.trans w3.fM) g4 (by omega) (cbad_f s2) w2
      · rw [if_neg (show ¬ (3 ≤ kk b n (k + 1) ∧ kk b n (k + 1) ≤ 6) from p1), if_neg (sn_nn rfl), q2_of (show F_Reader_fail 1 C2 = _ from c_fail (e := 1)), nar0]
        unfold cend
        rw [y_q2, if_pos rfl]
      · have k35 : F_Mo_readsSinger_35 (nI (A 0 0)) (mkw (kk b n (k + 1))) M3 J1 = some (M3, J1) := by
          unfold F_Mo_readsSinger_35
          rw [q1_of w2.bad, if_neg (sn_nn rfl)]
        rw [q1_of (show F_Mo_wrong 1 M2 = _ from w1), k35]
        rcases p2 with z | z
        · rw [if_pos z, y_q2]; exact m_86b w2
        · rw [if_neg z]
          by_cases zz : mkw (kk b n (k + 1)) < 13
          · rw [if_pos zz, y_q2]; exact m_86b w2
          · rw [if_neg zz, y_q2]; exact m_86b w2
  · obtain ⟨M1, w1, w2, w3⟩ := mk_wrong (e := 2) hm (by omega)
    refine lres_bad (e := 2) (k' := k) (C' := sd_up C 3 7 (nI 2)) (M' := M1) (J' := J) ?_ ?_ (fC.refl.up (by omega)) w3.fM jsm.refl (by omega) (cbad_f hc) w2
    · rw [if_neg (show ¬ nI (A 0 0) < 14 from nI_nlt (b := 14) (by omega) (by omega)), q2_of (show F_Reader_fail 2 C = _ from c_fail (e := 2)), nar0]
      unfold cend
      rw [y_q2, if_pos rfl]
    · rw [if_neg (sn_nn (show nI (A 0 0) = 14 by rw [show A 0 0 = 14 by omega]; rfl)), q1_of (show F_Mo_wrong 2 M = _ from w1), q1_of w2.bad, if_neg (sn_nn rfl), y_q2]
      exact m_86b w2
end LN
