section SX
variable {b : Nat → Nat} {n a0 off nv k : Nat} {out W T : List Nat} {M M' M2 : sm_MI} {J J' : sm_MJ}
/-- what waits is dropped down to a strength -/
theorem ms_drop {q : Nat} (hq : q < 10) (h : ms b n a0 off nv k out W T M J) : ∃ M', F_Mo_drops (nI q) M = some M' ∧ ms b n a0 off nv k (nrm q out W).1 (nrm q out W).2 T M' J ∧ xsm a0 M M' := by
  obtain ⟨ht, h16, hx, ⟨b1, b2, b3, b4, b5⟩, h31⟩ := h
  have hlen := nrm_len (q := q) W out
  have hle : (nrm q out W).2.length ≤ W.length := by
    have : ∀ W out, (nrm q out W).2.length ≤ W.length := by
      intro W
      induction W with
      | nil => intro out; exact Nat.le_refl _
      | cons c W ih =>
        intro out
        unfold nrm
        split
        · exact Nat.le_refl _
        · have := ih (out ++ [c])
          show _ ≤ W.length + 1
          omega
    exact this W out
  obtain ⟨M', d1, d2, d3, d4⟩ := m_drops hq hx (by omega) (by omega)
  exact ⟨M', d1, ⟨tok_of ht (fun j j1 j2 => d4 j (by omega) (by omega)) (d3.1 72 (by omega) (by omega) (by omega) (by omega)), ⟨by rw [d4 16 (by omega) (by omega)]; exact h16.1, by rw [d4 17 (by omega) (by omega)]; exact h16.2⟩, d2, ⟨by omega, by omega, b3, b4, b5⟩, by rw [d4 31 (by omega) (by omega)]; exact h31.1, by rw [d4 32 (by omega) (by omega)]; exact h31.2⟩, d3⟩
/-- an operator is put to wait, and the model goes on -/
theorem ms_wait {c : Nat} (hc : 3 ≤ c ∧ c < 15) (h : ms b n a0 off nv k out W T M J) (hk : kk b n k ≠ 33) : ∃ M1 M' J', F_Mo_waitsFor (nI c) M = some M1 ∧ F_Mo_goes M1 J = some (M', J') ∧ ms b n a0 off nv (k + 1) out (c :: W) T M' J' ∧ xsm a0 M M' ∧ jsm J J' := by
  obtain ⟨ht, h16, hx, ⟨b1, b2, b3, b4, b5⟩, h31⟩ := h
  have w1 := m_waits (c := c) hx (by omega)
  have x1 := xs_waits (c := c) hx hc
  have s1 : xsm a0 M (sd_up (sd_up M 84 W.length (nI c)) 61 33 (nI (W.length + 1))) := (xsm.refl.upk (by omega)).up (by omega)
  obtain ⟨M', J', g1, g2, g3, g4⟩ := ms_go (off := off) (nv := nv) (M := sd_up (sd_up M 84 W.length (nI c)) 61 33 (nI (W.length + 1))) (tok_up (tok_up ht (by omega) (by omega)) (by omega) (by omega)) ⟨by rw [up_m (by omega), up_n (by omega)]; exact h16.1, by rw [up_m (by omega), up_n (by omega)]; exact h16.2⟩ x1 ⟨by rw [up_m (by omega), up_n (by omega)]; exact h31.1, by rw [up_m (by omega), up_n (by omega)]; exact h31.2⟩ hk (by show a0 + out.length + (W.length + 1) ≤ _; omega) (by show W.length + 1 ≤ _; omega) b3 b4
  exact ⟨_, M', J', w1, g1, g2, s1.trans g3, g4⟩
/-- the same, and whether it was tested is set -/
theorem ms_waitT {c τ x : Nat} (hc : 3 ≤ c ∧ c < 15) (hx1 : x ≤ 1) (h : ms b n a0 off nv k out W (τ :: T) M J) (hk : kk b n k ≠ 33) : ∃ M1 M' J', F_Mo_waitsFor (nI c) M = some M1 ∧ M1 61 34 = nI (T.length + 1) ∧ F_Mo_goes (sd_up M1 85 (T.length + 1) (nI x)) J = some (M', J') ∧ ms b n a0 off nv (k + 1) out (c :: W) (x :: T) M' J' ∧ xsm a0 M M' ∧ jsm J J' := by
  obtain ⟨ht, h16, hx, ⟨b1, b2, b3, b4, b5⟩, h31⟩ := h
  have b4 : T.length + 1 ≤ 6 := b4
  have w1 := m_waits (c := c) hx (by omega)
  have x1 := xs_waits (c := c) hx hc
  have x2 := xs_top x1 hx1
  have s1 : xsm a0 M (sd_up (sd_up (sd_up M 84 W.length (nI c)) 61 33 (nI (W.length + 1))) 85 (T.length + 1) (nI x)) := ((xsm.refl.upk (by omega)).up (by omega)).upk (by omega)
  obtain ⟨M', J', g1, g2, g3, g4⟩ := ms_go (off := off) (nv := nv) (M := sd_up (sd_up (sd_up M 84 W.length (nI c)) 61 33 (nI (W.length + 1))) 85 (T.length + 1) (nI x)) (tok_up (tok_up (tok_up ht (by omega) (by omega)) (by omega) (by omega)) (by omega) (by omega)) ⟨by rw [up_n (by omega), up_m (by omega), up_n (by omega)]; exact h16.1, by rw [up_n (by omega), up_m (by omega), up_n (by omega)]; exact h16.2⟩ x2 ⟨by rw [up_n (by omega), up_m (by omega), up_n (by omega)]; exact h31.1, by rw [up_n (by omega), up_m (by omega), up_n (by omega)]; exact h31.2⟩ hk (by show a0 + out.length + (W.length + 1) ≤ _; omega) (by show W.length + 1 ≤ _; omega) (by show 1 ≤ T.length + 1; omega) b4
  exact ⟨_, M', J', w1, x1.2.2.1.1, g1, g2, s1.trans g3, g4⟩
theorem m_opr {c : Bool} (h16 : M 61 16 = 0) : F_Mo_operand (bI c) M J = F_Mo_operand_11 (F_Mo_operand_4 (sd_fu - 1)) sd_fu (bI c) (nI 0) M J := m_op4 h16 (by rw [sd_fu_val]; omega)
theorem m_end {τ f : Nat} (h : ms b n a0 off nv k out W (τ :: T) M J) (h1 : fin0 (kk b n k) τ) (h2 : kk b n k = 1041 → ∀ c, c ∈ W → c < 14) (hf : 0 < f) : F_Mo_expression_23 (f + 1) 1 M J = F_Mo_expression_168 M J := by
  obtain ⟨ht, h16, hx, ⟨b1, b2, b3, b4, b5⟩, h31⟩ := h
  obtain ⟨f1, f2, f3, f4, f5, f6, f7⟩ := h1
  have b4 : T.length + 1 ≤ 6 := b4
  have sg := fun (x : Nat) (h0 : 0 < x) (h1 : x < 256) => m_sign (x := x) ht h0 h1
  have kw := mkw_23 (kk b n k)
  have n1 : ¬ mkw (kk b n k) = 21 := fun z => f1 (kw.2.1.mp z)
  have n2 : ¬ mkw (kk b n k) = 22 := fun z => f2 (kw.2.2.mp z)
  have hop := m_opened hx (by omega)
  have k103 : F_Mo_expression_103 (F_Mo_expression_23 f) 1 M J = F_Mo_expression_168 M J := by
    unfold F_Mo_expression_103
    rw [q1_of (show F_Mo_isSign 43 M = _ from sg 43 (by omega) (by omega)), if_neg (show ¬ kk b n k = 1000 + 43 by omega), if_neg (sn_nn rfl), q1_of (show F_Mo_isSign 45 M = _ from sg 45 (by omega) (by omega)), if_neg (show ¬ kk b n k = 1000 + 45 by omega), if_pos rfl, q1_of (show F_Mo_isSign 42 M = _ from sg 42 (by omega) (by omega)), if_neg (show ¬ kk b n k = 1000 + 42 by omega), if_neg (sn_nn rfl),
      q1_of (show F_Mo_isSign 47 M = _ from sg 47 (by omega) (by omega)), if_neg (show ¬ kk b n k = 1000 + 47 by omega), if_pos rfl, q1_of (show F_Mo_isSign 41 M = _ from sg 41 (by omega) (by omega)), m_e0 hf]
    by_cases e : kk b n k = 1041
    · rw [if_neg (show ¬ ∃ c, c ∈ W ∧ 14 ≤ c from fun ⟨c, z1, z2⟩ => by have := h2 e c z1; omega)] at hop
      rw [if_pos (show kk b n k = 1000 + 41 from e), if_neg (by decide), q1_of hop, if_pos rfl]
    · rw [if_neg (show ¬ kk b n k = 1000 + 41 from e), if_pos rfl]
  have hu : F_Mo_expression_23 (f + 1) 1 M J = F_Mo_expression_23B (F_Mo_expression_23 f) 1 M J := rfl
  rw [hu]
  unfold F_Mo_expression_23B
  rw [if_neg (by decide), q1_of (m_good h16.1), if_neg (by decide), q1_of ht.kw, if_neg n1, if_pos n2, q1_of (show F_Mo_isSign 60 M = _ from sg 60 (by omega) (by omega)), q1_of (show F_Mo_isSign 61 M = _ from sg 61 (by omega) (by omega))]
  have hτ := hx.2.2.2.2 τ (List.mem_cons_self ..)
  have h34 : M 61 34 = nI (T.length + 1) := hx.2.2.1.1
  have h85 : M 85 (T.length + 1) = nI τ := hx.2.2.1.2.1
  have k73 : ¬ τ = 0 → F_Mo_expression_73 (F_Mo_expression_23 f) 1 M J = F_Mo_expression_168 M J := fun z => by
    unfold F_Mo_expression_73
    rw [h34, sn_gu (sn_in' (by omega) (by omega)), nI_clamp (by omega), h85, if_pos (show ¬ nI τ = 0 from nI_ne0 (by omega) (by omega))]
    exact k103
  by_cases e1 : kk b n k = 1060
  · rw [if_pos (show kk b n k = 1000 + 60 from e1), if_pos (by decide)]
    exact k73 (fun z => (f7 z).1 e1)
  · rw [if_neg (show ¬ kk b n k = 1000 + 60 from e1), if_neg (sn_nn rfl)]
    by_cases e2 : kk b n k = 1061
    · rw [if_pos (show kk b n k = 1000 + 61 from e2), if_neg (by decide)]
      exact k73 (fun z => (f7 z).2 e2)
    · rw [if_neg (show ¬ kk b n k = 1000 + 61 from e2), if_pos rfl]
      exact k103
theorem s_lp {g : Nat} (ih1 : sOp b n a0 off nv g) (ih2 : sLp b n a0 off nv g) : sLp b n a0 off nv (g + 1) := by
  intro k out W T r M J hs h f hf
  have hh := h
  obtain ⟨ht, h16, hx, ⟨b1, b2, b3, b4, b5⟩, h31⟩ := h
  have hlt := ht.lt
  obtain ⟨f, rfl⟩ : ∃ g, f = g + 1 := ⟨f - 1, by omega⟩
  have hu : F_Mo_expression_23 (f + 1) 1 M J = F_Mo_expression_23B (F_Mo_expression_23 f) 1 M J := rfl
  have sg := fun (x : Nat) (h0 : 0 < x) (h1 : x < 256) => m_sign (x := x) ht h0 h1
  have kw := mkw_23 (kk b n k)
  rcases hs with ⟨q, c, τ, T', rfl, h1, h3⟩ | ⟨c, T', rfl, h1, h3⟩ | ⟨q, c, h1, h3⟩ | ⟨τ, T', o, W', rfl, h1, h2, h4, h3⟩ | ⟨τ, T', rfl, h1, h2, h4, rfl⟩ | ⟨τ, rfl, h1, h2, rfl⟩
  · rw [hu]
    unfold F_Mo_expression_23B
    rw [if_neg (by decide), q1_of (m_good h16.1), if_neg (by decide), q1_of ht.kw]
    obtain ⟨M1, d1, d2, d3⟩ := ms_drop (q := q) (by omega) hh
    obtain ⟨M2, M3, J3, e1, e2, e3, e4, e5, e6⟩ := ms_waitT (c := c) (x := 0) (by omega) (by omega) d2 (by omega)
    have b4 : T'.length + 1 ≤ 6 := b4
    have fin := (ih1 true 0 (k + 1) _ _ _ r M3 J3 h3 e4 (by omega) (sd_fu - 1) sd_fu f (by rw [sd_fu_val]; omega) (by rw [sd_fu_val]; omega) (by omega)).from (d3.trans e5) e6
    have k52 : F_Mo_expression_52 (F_Mo_expression_23 f) 1 (nI c) M1 J = sd_q2 (F_Mo_operand_11 (F_Mo_operand_4 (sd_fu - 1)) sd_fu (bI true) (nI 0) M3 J3) fun I J => F_Mo_expression_23 f 1 I J := by
      unfold F_Mo_expression_52
      rw [q1_of e1, e2, sn_gu (sn_in' (by omega) (by omega)), nI_clamp (by omega), nar0, y_lt, q2_of (show F_Mo_goes (sd_up M2 85 (T'.length + 1) 0) J = some (M3, J3) from e3), show F_Mo_operand 1 M3 J3 = _ from m_opr (c := true) e4.2.1.1]
    unfold F_Mo_expression_37 F_Mo_expression_44
    rcases h1 with ⟨h1, rfl, rfl⟩ | ⟨h1, rfl, rfl⟩
    · rw [if_pos (kw.2.1.mpr h1), if_neg (sn_nn (kw.2.1.mpr h1)), q1_of (show F_Mo_drops 2 M = some M1 from d1), if_neg (sn_nn (kw.2.1.mpr h1)), show F_Mo_expression_52 (F_Mo_expression_23 f) 1 4 M1 J = _ from k52]
      exact fin
    · have n1 : ¬ mkw (kk b n k) = 21 := fun z => by have := kw.2.1.mp z; omega
      rw [if_neg n1, if_neg (sn_nn (kw.2.2.mpr h1)), if_pos n1, q1_of (show F_Mo_drops 1 M = some M1 from d1), if_pos n1, show F_Mo_expression_52 (F_Mo_expression_23 f) 1 5 M1 J = _ from k52]
      exact fin
  · rw [hu]
    unfold F_Mo_expression_23B
    rw [if_neg (by decide), q1_of (m_good h16.1), if_neg (by decide), q1_of ht.kw]
    have n1 : ¬ mkw (kk b n k) = 21 := fun z => by have := kw.2.1.mp z; omega
    have n2 : ¬ mkw (kk b n k) = 22 := fun z => by have := kw.2.2.mp z; omega
    obtain ⟨M1, d1, d2, d3⟩ := ms_drop (q := 4) (by omega) hh
    obtain ⟨M2, M3, J3, e1, e2, e3, e4, e5, e6⟩ := ms_waitT (c := c) (x := 1) (by omega) (by omega) d2 (by omega)
    have b4 : T'.length + 1 ≤ 6 := b4
    have fin := (ih1 false 0 (k + 1) _ _ _ r M3 J3 h3 e4 (by omega) (sd_fu - 1) sd_fu f (by rw [sd_fu_val]; omega) (by rw [sd_fu_val]; omega) (by omega)).from (d3.trans e5) e6
    have k90 : F_Mo_expression_90 (F_Mo_expression_23 f) 1 (nI c) M1 J = sd_q2 (F_Mo_operand_11 (F_Mo_operand_4 (sd_fu - 1)) sd_fu (bI false) (nI 0) M3 J3) fun I J => F_Mo_expression_23 f 1 I J := by
      unfold F_Mo_expression_90
      rw [q1_of e1, e2, sn_gu (sn_in' (by omega) (by omega)), nI_clamp (by omega), nar1, y_lt, q2_of (show F_Mo_goes (sd_up M2 85 (T'.length + 1) 1) J = some (M3, J3) from e3), show F_Mo_operand 0 M3 J3 = _ from m_opr (c := false) e4.2.1.1]
    have h34 : M 61 34 = nI (T'.length + 1) := hx.2.2.1.1
    have h85 : M 85 (T'.length + 1) = 0 := hx.2.2.1.2.1
    have sg1 := m_sign (x := 60) d2.1 (by omega) (by omega)
    have k73 : F_Mo_expression_73 (F_Mo_expression_23 f) 1 M J = F_Mo_expression_90 (F_Mo_expression_23 f) 1 (nI c) M1 J := by
      unfold F_Mo_expression_73
      rw [h34, sn_gu (sn_in' (by omega) (by omega)), nI_clamp (by omega), h85, if_neg (sn_nn rfl), q1_of (show F_Mo_drops 4 M = some M1 from d1), q1_of (show F_Mo_isSign 60 M1 = _ from sg1)]
      rcases h1 with ⟨h1, rfl⟩ | ⟨h1, rfl⟩
      · rw [if_pos (show kk b n k = 1000 + 60 from h1), if_neg (by decide)]; rfl
      · rw [if_neg (show ¬ kk b n k = 1000 + 60 by omega), if_pos rfl]; rfl
    rw [if_neg n1, if_pos n2, q1_of (show F_Mo_isSign 60 M = _ from sg 60 (by omega) (by omega)), q1_of (show F_Mo_isSign 61 M = _ from sg 61 (by omega) (by omega)), k73, k90]
    rcases h1 with ⟨h1, rfl⟩ | ⟨h1, rfl⟩
    · rw [if_pos (show kk b n k = 1000 + 60 from h1), if_pos (by decide)]; exact fin
    · rw [if_neg (show ¬ kk b n k = 1000 + 60 by omega), if_neg (sn_nn rfl), if_pos (show kk b n k = 1000 + 61 from h1), if_neg (by decide)]; exact fin
  · rw [hu]
    unfold F_Mo_expression_23B
    rw [if_neg (by decide), q1_of (m_good h16.1), if_neg (by decide), q1_of ht.kw]
    have n1 : ¬ mkw (kk b n k) = 21 := fun z => by have := kw.2.1.mp z; omega
    have n2 : ¬ mkw (kk b n k) = 22 := fun z => by have := kw.2.2.mp z; omega
    obtain ⟨M1, d1, d2, d3⟩ := ms_drop (q := q) (by omega) hh
    obtain ⟨M2, M3, J3, e1, e3, e4, e5, e6⟩ := ms_wait (c := c) (by omega) d2 (by omega)
    have fin := (ih1 false 0 (k + 1) _ _ _ r M3 J3 h3 e4 (by omega) (sd_fu - 1) sd_fu f (by rw [sd_fu_val]; omega) (by rw [sd_fu_val]; omega) (by omega)).from (d3.trans e5) e6
    have k122 : F_Mo_expression_122 (F_Mo_expression_23 f) 1 (nI c) M1 J = sd_q2 (F_Mo_operand_11 (F_Mo_operand_4 (sd_fu - 1)) sd_fu (bI false) (nI 0) M3 J3) fun I J => F_Mo_expression_23 f 1 I J := by
      unfold F_Mo_expression_122
      rw [q1_of e1, q2_of e3, show F_Mo_operand 0 M3 J3 = _ from m_opr (c := false) e4.2.1.1]
    have k148 : F_Mo_expression_148 (F_Mo_expression_23 f) 1 (nI c) M1 J = sd_q2 (F_Mo_operand_11 (F_Mo_operand_4 (sd_fu - 1)) sd_fu (bI false) (nI 0) M3 J3) fun I J => F_Mo_expression_23 f 1 I J := k122
    have s43 := m_sign (x := 43) d2.1 (by omega) (by omega)
    have s42 := m_sign (x := 42) d2.1 (by omega) (by omega)
    rw [if_neg n1, if_pos n2, q1_of (show F_Mo_isSign 60 M = _ from sg 60 (by omega) (by omega)), if_neg (show ¬ kk b n k = 1000 + 60 by omega), if_neg (sn_nn rfl), q1_of (show F_Mo_isSign 61 M = _ from sg 61 (by omega) (by omega)), if_neg (show ¬ kk b n k = 1000 + 61 by omega), if_pos rfl]
    unfold F_Mo_expression_103
    rw [q1_of (show F_Mo_isSign 43 M = _ from sg 43 (by omega) (by omega)), q1_of (show F_Mo_isSign 45 M = _ from sg 45 (by omega) (by omega)), q1_of (show F_Mo_isSign 42 M = _ from sg 42 (by omega) (by omega)), q1_of (show F_Mo_isSign 47 M = _ from sg 47 (by omega) (by omega))]
    unfold F_Mo_expression_111 F_Mo_expression_137
    rcases h1 with ⟨h1, rfl, rfl⟩ | ⟨h1, rfl, rfl⟩ | ⟨h1, rfl, rfl⟩ | ⟨h1, rfl, rfl⟩
    · rw [if_pos (show kk b n k = 1000 + 43 from h1), if_pos (by decide), q1_of (show F_Mo_drops 5 M = some M1 from d1), q1_of (show F_Mo_isSign 43 M1 = _ from s43), if_pos (show kk b n k = 1000 + 43 from h1), if_neg (by decide), show F_Mo_expression_122 (F_Mo_expression_23 f) 1 8 M1 J = _ from k122]
      exact fin
    · rw [if_neg (show ¬ kk b n k = 1000 + 43 by omega), if_neg (sn_nn rfl), if_pos (show kk b n k = 1000 + 45 from h1), if_neg (by decide), q1_of (show F_Mo_drops 5 M = some M1 from d1), q1_of (show F_Mo_isSign 43 M1 = _ from s43), if_neg (show ¬ kk b n k = 1000 + 43 by omega), if_pos rfl, show F_Mo_expression_122 (F_Mo_expression_23 f) 1 9 M1 J = _ from k122]
      exact fin
    · rw [if_neg (show ¬ kk b n k = 1000 + 43 by omega), if_neg (sn_nn rfl), if_neg (show ¬ kk b n k = 1000 + 45 by omega), if_pos rfl, if_pos (show kk b n k = 1000 + 42 from h1), if_pos (by decide), q1_of (show F_Mo_drops 6 M = some M1 from d1), q1_of (show F_Mo_isSign 42 M1 = _ from s42), if_pos (show kk b n k = 1000 + 42 from h1), if_neg (by decide), show F_Mo_expression_148 (F_Mo_expression_23 f) 1 10 M1 J = _ from k148]
      exact fin
    · rw [if_neg (show ¬ kk b n k = 1000 + 43 by omega), if_neg (sn_nn rfl), if_neg (show ¬ kk b n k = 1000 + 45 by omega), if_pos rfl, if_neg (show ¬ kk b n k = 1000 + 42 by omega), if_neg (sn_nn rfl), if_pos (show kk b n k = 1000 + 47 from h1), if_neg (by decide), q1_of (show F_Mo_drops 6 M = some M1 from d1), q1_of (show F_Mo_isSign 42 M1 = _ from s42), if_neg (show ¬ kk b n k = 1000 + 42 by omega), if_pos rfl, show F_Mo_expression_148 (F_Mo_expression_23 f) 1 11 M1 J = _ from k148]
      exact fin
  · rw [hu]
    unfold F_Mo_expression_23B
    rw [if_neg (by decide), q1_of (m_good h16.1), if_neg (by decide), q1_of ht.kw]
    have n1 : ¬ mkw (kk b n k) = 21 := fun z => by have := kw.2.1.mp z; omega
    have n2 : ¬ mkw (kk b n k) = 22 := fun z => by have := kw.2.2.mp z; omega
    have b4 : T'.length + 1 ≤ 6 := b4
    have hop := m_opened hx (by omega)
    obtain ⟨⟨x, y1, y2, y3⟩, y4⟩ := nrm_top W out h2
    have y2 : 14 ≤ x := by rcases y2 with z | z; exact z; omega
    rw [if_pos ⟨x, y1, y2⟩] at hop
    obtain ⟨M1, d1, d2, d3⟩ := ms_drop (q := 0) (by omega) hh
    have m2 : ∃ M' J', F_Mo_goes (sd_up (sd_up M1 61 33 (nI W'.length)) 61 34 (nI T'.length)) J = some (M', J') ∧ ms b n a0 off nv (k + 1) (nrm 0 out W).1 W' T' M' J' ∧ xsm a0 (sd_up (sd_up M1 61 33 (nI W'.length)) 61 34 (nI T'.length)) M' ∧ jsm J J' := by
      obtain ⟨ht', h16', hx', ⟨b1', b2', b3', b4', b5'⟩, h31'⟩ := d2
      rw [h2] at hx' b1' b2'
      have b1' : a0 + (nrm 0 out W).1.length + (W'.length + 1) ≤ 2 * k := b1'
      have b2' : W'.length + 1 ≤ k := b2'
      have x3 : xs a0 (nrm 0 out W).1 W' T' (sd_up (sd_up M1 61 33 (nI W'.length)) 61 34 (nI T'.length)) := by
        obtain ⟨⟨z1, z2⟩, ⟨z3, z4⟩, ⟨z5, z6⟩, z7, z8⟩ := hx'
        refine ⟨⟨?_, ?_⟩, ⟨?_, stw_of (fun i _ => by rw [up_n (by omega), up_n (by omega)]) z4.2⟩, ⟨up_s, stw_of (fun i _ => by rw [up_n (by omega), up_n (by omega)]) z6.2⟩, fun d hd => z7 d (List.mem_cons_of_mem _ hd), fun d hd => z8 d (List.mem_cons_of_mem _ hd)⟩
        · rw [up_m (by omega), up_m (by omega)]; exact z1
        · rw [up_n (by omega), up_n (by omega)]; exact z2
        · rw [up_m (by omega)]; exact up_s
      exact ms_go (tok_up (tok_up ht' (by omega) (by omega)) (by omega) (by omega)) ⟨by rw [up_m (by omega), up_m (by omega)]; exact h16'.1, by rw [up_m (by omega), up_m (by omega)]; exact h16'.2⟩ x3 ⟨by rw [up_m (by omega), up_m (by omega)]; exact h31'.1, by rw [up_m (by omega), up_m (by omega)]; exact h31'.2⟩ (by omega) (by omega) (by omega) (by have := List.length_pos_iff.mpr h4; omega) (by omega)
    obtain ⟨M', J', g1, g2, g3, g4⟩ := m2
    have s1 : xsm a0 M1 (sd_up (sd_up M1 61 33 (nI W'.length)) 61 34 (nI T'.length)) := (xsm.refl.up (by omega)).up (by omega)
    have fin := (ih2 (k + 1) _ W' T' r M' J' h3 g2 f (by omega)).from ((d3.trans s1).trans g3) g4
    have e33 : M1 61 33 = nI (W'.length + 1) := by have := d2.2.2.1.2.1.1; rw [h2] at this; exact this
    have e34 : sd_up M1 61 33 (nI W'.length) 61 34 = nI (T'.length + 1) := by rw [up_m (by omega)]; exact d2.2.2.1.2.2.1.1
    have kc : F_Mo_closes M J = some (M', J') := by
      unfold F_Mo_closes
      rw [q1_of (show F_Mo_drops 0 M = some M1 from d1), e33, x_sub1 (by omega), Nat.add_sub_cancel, y_lt, e34, x_sub1 (by omega), Nat.add_sub_cancel, y_lt, q2_of g1]
    rw [if_neg n1, if_pos n2, q1_of (show F_Mo_isSign 60 M = _ from sg 60 (by omega) (by omega)), if_neg (show ¬ kk b n k = 1000 + 60 by omega), if_neg (sn_nn rfl), q1_of (show F_Mo_isSign 61 M = _ from sg 61 (by omega) (by omega)), if_neg (show ¬ kk b n k = 1000 + 61 by omega), if_pos rfl]
    unfold F_Mo_expression_103
    rw [q1_of (show F_Mo_isSign 43 M = _ from sg 43 (by omega) (by omega)), if_neg (show ¬ kk b n k = 1000 + 43 by omega), if_neg (sn_nn rfl), q1_of (show F_Mo_isSign 45 M = _ from sg 45 (by omega) (by omega)), if_neg (show ¬ kk b n k = 1000 + 45 by omega), if_pos rfl, q1_of (show F_Mo_isSign 42 M = _ from sg 42 (by omega) (by omega)), if_neg (show ¬ kk b n k = 1000 + 42 by omega), if_neg (sn_nn rfl),
      q1_of (show F_Mo_isSign 47 M = _ from sg 47 (by omega) (by omega)), if_neg (show ¬ kk b n k = 1000 + 47 by omega), if_pos rfl, q1_of (show F_Mo_isSign 41 M = _ from sg 41 (by omega) (by omega)), if_pos (show kk b n k = 1000 + 41 from h1), if_neg (by decide), q1_of hop, if_neg (by decide), q2_of kc]
    exact fin
  · rw [m_end hh h1 h2 (by omega)]
    have hl := List.length_pos_iff.mpr h4
    have b4 : T'.length + 1 ≤ 6 := b4
    have h34 : M 61 34 = nI (T'.length + 1) := hx.2.2.1.1
    have hw := m_wrong (e := 1) h16.1 ht.pl
    obtain ⟨M', d1, d2, d3, d4⟩ := m_178 (J := J) (xs_bad (e := nI 1) (v := nI (tp b n k)) hx) (by omega) (by omega)
    refine ⟨M', J, ?_, ((xsm.refl.up (by omega)).up (by omega)).trans d3, jsm.refl, by rw [d4 16 (by omega) (by omega), up_m (by omega)]; exact up_s, by rw [d4 17 (by omega) (by omega)]; exact up_s⟩
    unfold F_Mo_expression_168
    rw [q1_of (m_good h16.1), if_neg (by decide), h34, if_neg (show ¬ nI (T'.length + 1) ≤ 1 from nI_ge (a := 1) (by omega) (by omega)), q1_of (show F_Mo_wrong 1 M = _ from hw)]
    exact d1
  · rw [m_end hh h1 h2 (by omega)]
    have h34 : M 61 34 = nI 1 := hx.2.2.1.1
    obtain ⟨M', d1, d2, d3, d4⟩ := m_178 (J := J) hx (by omega) (by omega)
    refine ⟨M', J, ?_, d3, jsm.refl, tok_of ht (fun j j1 j2 => d4 j (by omega) (by omega)) (d3.1 72 (by omega) (by omega) (by omega) (by omega)), by rw [d4 16 (by omega) (by omega)]; exact h16.1, by rw [d4 17 (by omega) (by omega)]; exact h16.2, d2.1.1, d2.1.2⟩
    unfold F_Mo_expression_168
    rw [q1_of (m_good h16.1), if_neg (by decide), h34, if_pos (by decide)]
    exact d1
theorem m_sy (ho : (off = 0 ∧ nv = 6) ∨ (off = 6 ∧ nv = 4)) : ∀ g, sOp b n a0 off nv g ∧ sLp b n a0 off nv g
  | 0 => ⟨fun _ _ _ _ _ _ _ _ _ h => absurd h (by unfold SY; exact id), fun _ _ _ _ _ _ _ h => absurd h (by unfold SY; exact id)⟩
  | g + 1 => ⟨s_op ho (m_sy ho g).1 (m_sy ho g).2, s_lp (m_sy ho g).1 (m_sy ho g).2⟩
/-- an expression of the model, from its first token -/
theorem m_expr {r : rsx} (ho : (off = 0 ∧ nv = 6) ∨ (off = 6 ∧ nv = 4)) (hs : ∃ g, SY (kk b n) off nv g (some (true, 0)) k [] [] [0] r) (ht : tok b n k M J) (h16 : M 61 16 = 0) (h17 : M 61 17 = -1) (h30 : M 61 30 = nI a0) (ha : a0 ≤ 2 * k) (hk : k ≤ 700) :
    mres b n a0 (sd_up (sd_up M 61 31 (nI off)) 61 32 (nI (off + nv - 1))) J r (F_Mo_expression (nI off) (nI (off + nv - 1)) M J) := by
  obtain ⟨g, hs⟩ := hs
  have x0 : xs a0 [] [] [] (sd_up (sd_up (sd_up (sd_up M 61 31 (nI off)) 61 32 (nI (off + nv - 1))) 61 33 0) 61 34 0) :=
    ⟨⟨by rw [up_m (by omega), up_m (by omega), up_m (by omega), up_m (by omega)]; exact h30, fun i c hc => by cases hc⟩, ⟨by rw [up_m (by omega)]; exact up_s, trivial⟩, ⟨up_s, trivial⟩, (fun c hc => by cases hc), fun c hc => by cases hc⟩
  have d1 := m_deep1 x0 (by decide)
  have x1 := xs_deep x0
  have s1 : xsm a0 (sd_up (sd_up M 61 31 (nI off)) 61 32 (nI (off + nv - 1))) (sd_up (sd_up (sd_up (sd_up (sd_up (sd_up M 61 31 (nI off)) 61 32 (nI (off + nv - 1))) 61 33 0) 61 34 0) 61 34 (nI (([] : List Nat).length + 1))) 85 (([] : List Nat).length + 1) 0) := (((xsm.refl.up (by omega)).up (by omega)).up (by omega)).upk (by omega)
  have m1 : ms b n a0 off nv k [] [] [0] (sd_up (sd_up (sd_up (sd_up (sd_up (sd_up M 61 31 (nI off)) 61 32 (nI (off + nv - 1))) 61 33 0) 61 34 0) 61 34 (nI (([] : List Nat).length + 1))) 85 (([] : List Nat).length + 1) 0) J := by
    refine ⟨?_, ⟨?_, ?_⟩, x1, ⟨by show a0 + 0 + 0 ≤ _; omega, Nat.zero_le _, by decide, by decide, hk⟩, ?_, ?_⟩
    · exact tok_up (tok_up (tok_up (tok_up (tok_up (tok_up ht (by omega) (by omega)) (by omega) (by omega)) (by omega) (by omega)) (by omega) (by omega)) (by omega) (by omega)) (by omega) (by omega)
    · rw [up_n (by omega), up_m (by omega), up_m (by omega), up_m (by omega), up_m (by omega), up_m (by omega)]; exact h16
    · rw [up_n (by omega), up_m (by omega), up_m (by omega), up_m (by omega), up_m (by omega), up_m (by omega)]; exact h17
    · rw [up_n (by omega), up_m (by omega), up_m (by omega), up_m (by omega), up_m (by omega)]; exact up_s
    · rw [up_n (by omega), up_m (by omega), up_m (by omega), up_m (by omega)]; exact up_s
  have := ((m_sy ho g).1 true 0 k [] [] [0] r _ J hs m1 (by omega) (sd_fu - 1) sd_fu sd_fu (by rw [sd_fu_val]; omega) (by rw [sd_fu_val]; omega) (by rw [sd_fu_val]; omega)).from s1 jsm.refl
  unfold F_Mo_expression
  rw [q1_of (m_good h16), if_pos (by decide), y_lt, y_lt, y_lt, y_lt, q1_of d1, show F_Mo_operand 1 _ J = _ from m_opr (c := true) m1.2.1.1]
  exact this
end SX
