section SX
variable {b : Nat → Nat} {n a0 off nv k : Nat} {out W T : List Nat} {M M' M2 : sm_MI} {J J' : sm_MJ}
/-- after an operand -/
def sOp (b : Nat → Nat) (n a0 off nv g : Nat) : Prop := ∀ c m k out W T r M J, SY (kk b n) off nv g (some (c, m)) k out W T r → ms b n a0 off nv k out W T M J → m ≤ 6 → ∀ f4 f11 f23, 2000 ≤ f4 + k → 2000 ≤ f11 + k → 2000 ≤ f23 + k →
  mres b n a0 M J r (sd_q2 (F_Mo_operand_11 (F_Mo_operand_4 f4) f11 (bI c) (nI m) M J) fun I J => F_Mo_expression_23 f23 1 I J)
def sLp (b : Nat → Nat) (n a0 off nv g : Nat) : Prop := ∀ k out W T r M J, SY (kk b n) off nv g none k out W T r → ms b n a0 off nv k out W T M J → ∀ f23, 2000 ≤ f23 + k → mres b n a0 M J r (F_Mo_expression_23 f23 1 M J)
theorem s_bad {e f4 f23 : Nat} {x : Int32} (h : ms b n a0 off nv k out W T M J) (hp : pbad b n a0 k e out W T M J) (h4 : 0 < f4) (h23 : 0 < f23) (he : 0 < e) (he2 : e < 10) (hk : kk b n k ≠ 1040) : mres b n a0 M J (.inl (e, k)) (sd_q2 (F_Mo_operand_37 (F_Mo_operand_4 f4) x M J) fun I J => F_Mo_expression_23 f23 1 I J) := by
  obtain ⟨M', out', p1, p2, p3, p4, p5, p6⟩ := hp
  obtain ⟨ht, h16, hx, ⟨b1, b2, b3, b4, b5⟩, h31⟩ := h
  rw [m_o37p ht h16.1 h4 hk, p1]
  exact (m_tail (J := J) p2 (by omega) (by omega) p4 he he2 p5 h23).from p6 jsm.refl
theorem s_op {g : Nat} (ho : (off = 0 ∧ nv = 6) ∨ (off = 6 ∧ nv = 4)) (ih1 : sOp b n a0 off nv g) (ih2 : sLp b n a0 off nv g) : sOp b n a0 off nv (g + 1) := by
  intro c m k out W T r M J hs h hm f4 f11 f23 hf4 hf11 hf23
  have hh := h
  obtain ⟨ht, h16, hx, ⟨b1, b2, b3, b4, b5⟩, h31⟩ := h
  rcases hs with ⟨rfl, h1, h2, h3⟩ | ⟨rfl, h1, rfl, rfl⟩ | ⟨h1, h2, h3⟩ | ⟨h1, h2, rfl⟩ | ⟨h1, h3⟩ | ⟨h1, rfl⟩ | ⟨h1, h2, h3⟩ | ⟨h1, h2, h3, rfl⟩ | ⟨h1, h2, h3, h4, rfl⟩
  · obtain ⟨f11, rfl⟩ : ∃ g, f11 = g + 1 := ⟨f11 - 1, by omega⟩
    have w1 := m_waits (c := 3) hx (by omega)
    have x1 := xs_waits (c := 3) hx (by omega)
    have s1 : xsm a0 M (sd_up (sd_up M 84 W.length (nI 3)) 61 33 (nI (W.length + 1))) := (xsm.refl.upk (by omega)).up (by omega)
    obtain ⟨M', J', g1, g2, g3, g4⟩ := ms_go (off := off) (nv := nv) (M := sd_up (sd_up M 84 W.length (nI 3)) 61 33 (nI (W.length + 1))) (tok_up (tok_up ht (by omega) (by omega)) (by omega) (by omega)) ⟨by rw [up_m (by omega), up_n (by omega)]; exact h16.1, by rw [up_m (by omega), up_n (by omega)]; exact h16.2⟩ x1 ⟨by rw [up_m (by omega), up_n (by omega)]; exact h31.1, by rw [up_m (by omega), up_n (by omega)]; exact h31.2⟩ (by omega) (by show a0 + out.length + (W.length + 1) ≤ _; omega) (by show W.length + 1 ≤ _; omega) b3 b4
    have := (ih1 true (m + 1) (k + 1) out (3 :: W) T r M' J' h3 g2 (by omega) f4 f11 f23 (by omega) (by omega) (by omega)).from (s1.trans g3) g4
    have e : F_Mo_operand_11 (F_Mo_operand_4 f4) (f11 + 1) (bI true) (nI m) M J = F_Mo_operand_11 (F_Mo_operand_4 f4) f11 (bI true) (nI (m + 1)) M' J' := by
      have hu : F_Mo_operand_11 (F_Mo_operand_4 f4) (f11 + 1) (bI true) (nI m) M J = F_Mo_operand_11B (F_Mo_operand_4 f4) (F_Mo_operand_11 (F_Mo_operand_4 f4) f11) (bI true) (nI m) M J := rfl
      rw [hu]
      unfold F_Mo_operand_11B F_Mo_operand_26
      rw [q1_of (m_good h16.1), if_neg (by decide), if_neg (show ¬ bI true = 0 by decide), q1_of ht.kw, if_neg (sn_nn ((mkw_23 _).1.mpr h1)), if_pos (show ¬ nI m = 6 from fun z => by have := (nI_eq (b := 6) (by omega) (by omega)).mp z; omega), q1_of (m_good h16.1), if_pos (by decide), q1_of (show F_Mo_waitsFor 3 M = _ from w1), q2_of g1, show nI m + 1 = nI (m + 1) from nI_add m 1]
    rw [e]
    exact this
  · obtain ⟨f11, rfl⟩ : ∃ g, f11 = g + 1 + 1 := ⟨f11 - 2, by omega⟩
    have hw := m_wrong (e := 2) h16.1 ht.pl
    have w16 : sd_up (sd_up M 61 16 (nI 2)) 61 17 (nI (tp b n k)) 61 16 = nI 2 := by rw [up_m (by omega)]; exact up_s
    have e : F_Mo_operand_11 (F_Mo_operand_4 f4) (f11 + 1 + 1) (bI true) (nI 6) M J = some (sd_up (sd_up M 61 16 (nI 2)) 61 17 (nI (tp b n k)), J) := by
      have hu : F_Mo_operand_11 (F_Mo_operand_4 f4) (f11 + 1 + 1) (bI true) (nI 6) M J = F_Mo_operand_11B (F_Mo_operand_4 f4) (F_Mo_operand_11 (F_Mo_operand_4 f4) (f11 + 1)) (bI true) (nI 6) M J := rfl
      rw [hu]
      unfold F_Mo_operand_11B F_Mo_operand_26
      rw [q1_of (m_good h16.1), if_neg (by decide), if_neg (show ¬ bI true = 0 by decide), q1_of ht.kw, if_neg (sn_nn ((mkw_23 _).1.mpr h1)), if_neg (sn_nn (show nI 6 = 6 from rfl)), q1_of (show F_Mo_wrong 2 M = _ from hw), q1_of (m_bad w16 (by omega) (by omega)), if_neg (sn_nn rfl)]
      generalize sd_up (sd_up M 61 16 (nI 2)) 61 17 (nI (tp b n k)) = Mw at w16
      have hu : ∀ y, F_Mo_operand_11 (F_Mo_operand_4 f4) (f11 + 1) (bI true) y Mw J = F_Mo_operand_11B (F_Mo_operand_4 f4) (F_Mo_operand_11 (F_Mo_operand_4 f4) f11) (bI true) y Mw J := fun _ => rfl
      rw [hu]
      unfold F_Mo_operand_11B F_Mo_operand_37 F_Mo_operand_47
      rw [q1_of (m_bad w16 (by omega) (by omega)), if_pos rfl, q1_of (m_bad w16 (by omega) (by omega)), if_pos rfl, if_pos rfl]
      exact m_op0 w16 (by omega) (by omega) (by omega)
    rw [e]
    exact m_tailW ht h16.1 hx (by omega) (by omega) (by omega) (by omega) (by omega)
  · have w1 := m_waits (c := 14) hx (by omega)
    have x1 := xs_waits (c := 14) hx (by omega)
    have s1 : xsm a0 M (sd_up (sd_up M 84 W.length (nI 14)) 61 33 (nI (W.length + 1))) := (xsm.refl.upk (by omega)).up (by omega)
    obtain ⟨M', J', g1, g2, g3, g4⟩ := ms_go (off := off) (nv := nv) (M := sd_up (sd_up M 84 W.length (nI 14)) 61 33 (nI (W.length + 1))) (tok_up (tok_up ht (by omega) (by omega)) (by omega) (by omega)) ⟨by rw [up_m (by omega), up_n (by omega)]; exact h16.1, by rw [up_m (by omega), up_n (by omega)]; exact h16.2⟩ x1 ⟨by rw [up_m (by omega), up_n (by omega)]; exact h31.1, by rw [up_m (by omega), up_n (by omega)]; exact h31.2⟩ (by omega) (by show a0 + out.length + (W.length + 1) ≤ _; omega) (by show W.length + 1 ≤ _; omega) b3 b4
    have d1 := m_deep1 g2.2.2.1 h2
    have x2 := xs_deep g2.2.2.1
    have s2 : xsm a0 M' (sd_up (sd_up M' 61 34 (nI (T.length + 1))) 85 (T.length + 1) 0) := (xsm.refl.up (by omega)).upk (by omega)
    have m2 : ms b n a0 off nv (k + 1) out (14 :: W) (0 :: T) (sd_up (sd_up M' 61 34 (nI (T.length + 1))) 85 (T.length + 1) 0) J' := by
      obtain ⟨ht', h16', hx', ⟨b1', b2', b3', b4', b5'⟩, h31'⟩ := g2
      exact ⟨tok_up (tok_up ht' (by omega) (by omega)) (by omega) (by omega), ⟨by rw [up_n (by omega), up_m (by omega)]; exact h16'.1, by rw [up_n (by omega), up_m (by omega)]; exact h16'.2⟩, x2, ⟨b1', b2', by show 1 ≤ T.length + 1; omega, by show T.length + 1 ≤ 6; omega, b5'⟩, by rw [up_n (by omega), up_m (by omega)]; exact h31'.1, by rw [up_n (by omega), up_m (by omega)]; exact h31'.2⟩
    have := (ih1 true 0 (k + 1) out (14 :: W) (0 :: T) r _ J' h3 m2 (by omega) (f4 - 1) sd_fu f23 (by omega) (by rw [sd_fu_val]; omega) (by omega)).from ((s1.trans g3).trans s2) g4
    have sg := m_sign (x := 40) ht (by omega) (by omega)
    rw [if_pos h1] at sg
    have e : F_Mo_operand_11 (F_Mo_operand_4 f4) f11 (bI c) (nI m) M J = F_Mo_operand_11 (F_Mo_operand_4 (f4 - 1)) sd_fu (bI true) (nI 0) (sd_up (sd_up M' 61 34 (nI (T.length + 1))) 85 (T.length + 1) 0) J' := by
      rw [m_o37 ht h16.1 (by omega) (by omega)]
      unfold F_Mo_operand_37 F_Mo_operand_47
      rw [q1_of (m_good h16.1), if_neg (by decide), q1_of (show F_Mo_isSign 40 M = _ from sg), if_neg (by decide), if_neg (by decide), q1_of (show F_Mo_waitsFor 14 M = _ from w1), q2_of g1, q1_of d1]
      exact m_op4 m2.2.1.1 (by omega)
    rw [e]
    exact this
  · have w1 := m_waits (c := 14) hx (by omega)
    have x1 := xs_waits (c := 14) hx (by omega)
    have s1 : xsm a0 M (sd_up (sd_up M 84 W.length (nI 14)) 61 33 (nI (W.length + 1))) := (xsm.refl.upk (by omega)).up (by omega)
    obtain ⟨M', J', g1, g2, g3, g4⟩ := ms_go (off := off) (nv := nv) (M := sd_up (sd_up M 84 W.length (nI 14)) 61 33 (nI (W.length + 1))) (tok_up (tok_up ht (by omega) (by omega)) (by omega) (by omega)) ⟨by rw [up_m (by omega), up_n (by omega)]; exact h16.1, by rw [up_m (by omega), up_n (by omega)]; exact h16.2⟩ x1 ⟨by rw [up_m (by omega), up_n (by omega)]; exact h31.1, by rw [up_m (by omega), up_n (by omega)]; exact h31.2⟩ (by omega) (by show a0 + out.length + (W.length + 1) ≤ _; omega) (by show W.length + 1 ≤ _; omega) b3 b4
    have d0 := m_deep0 g2.1 g2.2.1.1 g2.2.2.1 (by omega)
    have b2' := g2.2.2.2.1
    have b2a : a0 + out.length + (W.length + 1) ≤ 2 * (k + 1) := b2'.1
    have sg := m_sign (x := 40) ht (by omega) (by omega)
    rw [if_pos h1] at sg
    have epos : 0 < (if kk b n (k + 1) < 25 ∨ kk b n (k + 1) = 31 ∨ kk b n (k + 1) = 1040 ∨ 10000 ≤ kk b n (k + 1) then 2 else 1) ∧ (if kk b n (k + 1) < 25 ∨ kk b n (k + 1) = 31 ∨ kk b n (k + 1) = 1040 ∨ 10000 ≤ kk b n (k + 1) then 2 else 1) < 10 := by split <;> omega
    generalize (if kk b n (k + 1) < 25 ∨ kk b n (k + 1) = 31 ∨ kk b n (k + 1) = 1040 ∨ 10000 ≤ kk b n (k + 1) then 2 else 1) = e at d0 epos
    have w16 : sd_up (sd_up M' 61 16 (nI e)) 61 17 (nI (tp b n (k + 1))) 61 16 = nI e := by rw [up_m (by omega)]; exact up_s
    have e1 : F_Mo_operand_11 (F_Mo_operand_4 f4) f11 (bI c) (nI m) M J = some (sd_up (sd_up M' 61 16 (nI e)) 61 17 (nI (tp b n (k + 1))), J') := by
      rw [m_o37 ht h16.1 (by omega) (by omega)]
      unfold F_Mo_operand_37 F_Mo_operand_47
      rw [q1_of (m_good h16.1), if_neg (by decide), q1_of (show F_Mo_isSign 40 M = _ from sg), if_neg (by decide), if_neg (by decide), q1_of (show F_Mo_waitsFor 14 M = _ from w1), q2_of g1, q1_of d0]
      exact m_op0 w16 epos.1 epos.2 (by omega)
    rw [e1]
    exact (m_tailW g2.1 g2.2.1.1 g2.2.2.1 (by show a0 + out.length + (W.length + 1) < _; omega) (by show W.length + 1 < _; omega) epos.1 epos.2 (by omega)).from (s1.trans g3) g4
  · obtain ⟨M', J', p1, p2, p3, p4⟩ := m_pnum hh h1
    rw [m_o37 ht h16.1 (by omega) (by omega), m_o37p ht h16.1 (by omega) (by omega), p1]
    exact (ih2 (k + 1) _ W T r M' J' h3 p2 f23 (by omega)).from p3 p4
  · rw [m_o37 ht h16.1 (by omega) (by omega)]
    exact s_bad hh (m_plong hh h1) (by omega) (by omega) (by omega) (by omega) (by omega)
  · obtain ⟨M', J', p1, p2, p3, p4⟩ := m_pword hh h1 h2 (by omega)
    rw [m_o37 ht h16.1 (by omega) (by omega), m_o37p ht h16.1 (by omega) (by omega), p1]
    exact (ih2 (k + 1) _ W T r M' J' h3 p2 f23 (by omega)).from p3 p4
  · rw [m_o37 ht h16.1 (by omega) (fun z => h3 z.1 z.2)]
    exact s_bad hh (m_pbadw hh h1 h2 ho) (by omega) (by omega) (by omega) (by omega) (by omega)
  · rw [m_o37 ht h16.1 (by omega) (by omega)]
    exact s_bad hh (m_pother hh h1 h2 h4) (by omega) (by omega) (by omega) (by omega) h3
end SX
