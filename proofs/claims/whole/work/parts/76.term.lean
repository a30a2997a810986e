/-! ===== terms, products, sums ===== -/
def TS (kq : Nat → Nat) (off nv x2 D p k k' : Nat) (s : List Nat) : Prop := okq nv D s ∧ (∀ τ, ql (kq k') τ < p) ∧ ∀ bb m out W τ T rr, (bb = true → kq k ≠ 13) → T.length = x2 → wlv W < p → SYe kq off nv none k' (out ++ mcf off s) W (τ :: T) rr → SYe kq off nv (some (bb, m)) k out W (τ :: T) rr
def TF (kq : Nat → Nat) (off nv x2 p k e k' : Nat) : Prop := (0 < e ∧ e < 10) ∧ ∀ bb m out W τ T, (bb = true → kq k ≠ 13) → T.length = x2 → wlv W < p → SYe kq off nv (some (bb, m)) k out W (τ :: T) (.inl (e, k'))
def XS (kq : Nat → Nat) (off nv x2 D p k k' : Nat) (s : List Nat) : Prop := okq nv D s ∧ ∃ τ, τ ≤ 1 ∧ ql (kq k') τ < p ∧ ∀ out W T rr, T.length = x2 → wlv W < p → SYe kq off nv none k' (out ++ mcf off s) W (τ :: T) rr → SYe kq off nv (some (true, 0)) k out W (0 :: T) rr
def XF (kq : Nat → Nat) (off nv x2 p k e k' : Nat) : Prop := (0 < e ∧ e < 10) ∧ ∀ out W T, T.length = x2 → wlv W < p → SYe kq off nv (some (true, 0)) k out W (0 :: T) (.inl (e, k'))
theorem ql_7 {κ τ : Nat} : ql κ τ < 7 := by unfold ql; repeat (first | omega | split)
theorem wlv_14 {W : List Nat} : wlv (14 :: W) < 1 := by show (if 14 ≤ 14 then 0 else stg 14) < 1; decide
section RT
variable {b : Nat → Nat} {n p off nv u0 k w x2 D : Nat} {st : List Nat} {C C' C2 : sm_MI} {kE : Nat → Int32 → sm_MI → Option (Int32 × sm_MI)}
theorem rd_w {w' : Nat} (h : rd b n p off nv u0 k st w C) (hw : w' ≤ w) : rd b n p off nv u0 k st w' C := by
  obtain ⟨h1, h2, h3, h4, h5, h6⟩ := h
  exact ⟨h1, h2, h3, h4, by omega, h6⟩
theorem c_rsign {x : Nat} (hp : p = 35 ∨ p = 55) (h : rd b n p off nv u0 k st w C) (hx : 40 ≤ x ∧ x < 256) : ∃ r C', F_Reader_readSign (nI x) C = some (r, C') ∧ csf p u0 C C' ∧ ((r = 1 ∧ kk b n k = 1000 + x ∧ rd b n p off nv u0 (k + 1) st (w + 1) C') ∨ (r = 0 ∧ kk b n k ≠ 1000 + x ∧ cft p u0 1 k C')) := by
  have hs := c_atS (x := x) h.2.1.2 h.1.lt (by omega)
  unfold F_Reader_readSign
  by_cases e : kk b n k = 1000 + x
  · rw [if_pos e] at hs
    obtain ⟨C1, s1, s2, s3⟩ := c_step hp h (by omega)
    exact ⟨1, C1, by rw [q1_of hs, if_pos (by decide), q1_of s1], s3, Or.inl ⟨rfl, e, s2⟩⟩
  · rw [if_neg e] at hs
    obtain ⟨g1, g2⟩ := rd_fail (e := 1) hp h
    exact ⟨0, _, by rw [q1_of hs, if_neg (sn_nn rfl), q2_of (show F_Reader_fail 1 C = _ from c_fail (e := 1)), nar0], g2, Or.inr ⟨rfl, e, g1⟩⟩
theorem c_rterm (hp : p = 35 ∨ p = 55) (ho : (off = 0 ∧ nv = 6) ∨ (off = 6 ∧ nv = 4)) (hx : x2 < 6) (hD : 1 ≤ D) (hE : x2 + 1 < 6 → sbc b n p off nv u0 (kE p (nI (x2 + 1))) (XS (kk b n) off nv (x2 + 1) D 1) (XF (kk b n) off nv (x2 + 1) 1))
    (hE6 : x2 + 1 = 6 → ∀ C κ, C 3 2 = nI κ → κ < 20000 → kE p (nI 6) C = some (0, sd_up C 3 7 (nI (if κ < 25 ∨ κ = 31 ∨ κ = 1040 ∨ 10000 ≤ κ then 2 else 1)))) :
    sbc b n p off nv u0 (F_Reader_readTerm p kE (nI x2)) (TS (kk b n) off nv x2 D 7) (TF (kk b n) off nv x2 7) := by
  intro k st w C h
  have hlt := h.1.lt (k := k)
  have hs := c_atS (x := 40) h.2.1.2 hlt (by omega)
  unfold F_Reader_readTerm
  by_cases e1 : kk b n k = 1040
  · rw [if_pos (show kk b n k = 1000 + 40 from e1)] at hs
    obtain ⟨C1, s1, s2, s3⟩ := c_step hp h (by omega)
    rw [q1_of (show F_Reader_atSign 40 C = some 1 from hs), if_neg (by decide), q1_of s1, show nI x2 + 1 = nI (x2 + 1) from nI_add x2 1]
    by_cases e2 : x2 + 1 = 6
    · have := hE6 e2 C1 _ s2.2.1.2 s2.1.lt
      obtain ⟨g1, g2⟩ := rd_fail (e := if kk b n (k + 1) < 25 ∨ kk b n (k + 1) = 31 ∨ kk b n (k + 1) = 1040 ∨ 10000 ≤ kk b n (k + 1) then 2 else 1) hp s2
      refine ⟨0, _, by rw [e2, q2_of this, if_pos rfl], s3.trans g2, Or.inr ⟨rfl, _, k + 1, g1, ⟨by split <;> omega, by split <;> omega⟩, fun bb m out W τ T _ hT _ => SYe.br6 e1 (by show 6 ≤ T.length + 1; omega)⟩⟩
    · obtain ⟨r, C2, f1, f2, f3⟩ := hE (by omega) (k + 1) st (w + 1) C1 s2
      rw [q2_of f1]
      rcases f3 with ⟨rfl, k', s, g1, g2, g3, τ', g4, g5, g6⟩ | ⟨rfl, e, k', g1, g2, g3⟩
      · obtain ⟨r2, C3, r1, r2', r3⟩ := c_rsign (x := 41) hp g1 (by omega)
        rw [if_neg (by decide), q2_of (show F_Reader_readSign 41 C2 = _ from r1)]
        rcases r3 with ⟨rfl, j1, j2⟩ | ⟨rfl, j1, j2⟩
        · refine ⟨1, C3, by rw [if_neg (by decide)], (s3.trans f2).trans r2', Or.inl ⟨rfl, k' + 1, s, rd_w j2 (by omega), by omega, g3, fun τ => ql_7, fun bb m out W τ T rr _ hT _ hh => ?_⟩⟩
          refine SYe.br e1 (by show T.length + 1 < 6; omega) (g6 out (14 :: W) (τ :: T) rr (by show T.length + 1 = _; omega) wlv_14 (SYe.cl j1 (by intro z; cases z) hh))
        · refine ⟨0, C3, by rw [if_pos rfl], (s3.trans f2).trans r2', Or.inr ⟨rfl, 1, k', j2, ⟨by omega, by omega⟩, fun bb m out W τ T _ hT _ => ?_⟩⟩
          exact SYe.br e1 (by show T.length + 1 < 6; omega) (g6 out (14 :: W) (τ :: T) _ (by show T.length + 1 = _; omega) wlv_14 (SYe.en1 (ql_fin (by omega)) j1 (by intro z; cases z)))
      · exact ⟨0, C2, by rw [if_pos rfl], s3.trans f2, Or.inr ⟨rfl, e, k', g1, g2, fun bb m out W τ T _ hT _ => SYe.br e1 (by show T.length + 1 < 6; omega) (g3 out (14 :: W) (τ :: T) (by show T.length + 1 = _; omega) wlv_14)⟩⟩
  · rw [if_neg (show ¬ kk b n k = 1000 + 40 from e1)] at hs
    rw [q1_of (show F_Reader_atSign 40 C = some 0 from hs), if_pos rfl]
    have h32 := h.2.1.2
    by_cases e2 : kk b n k < 25
    · have aw : F_Reader_atWord C = some 1 := by
        unfold F_Reader_atWord
        rw [h32, if_neg (nI_pos (by omega)), if_neg (show ¬ (24 : Int32) < nI (kk b n k) from nI_nlt (a := 24) (by omega) (by omega))]
      rw [q1_of aw, if_neg (by decide), h32, h.2.2.1.1, h.2.2.1.2]
      have bad : ¬ (14 + off ≤ kk b n k ∧ kk b n k < 14 + off + nv) → ∃ r C', F_Reader_readTerm_36 p kE C = some (r, C') ∧ csf p u0 C C' ∧ ((r = 1 ∧ ∃ k' s, rd b n p off nv u0 k' (st ++ s) w C' ∧ k < k' ∧ TS (kk b n) off nv x2 D 7 k k' s) ∨ (r = 0 ∧ ∃ e k', cft p u0 e k' C' ∧ TF (kk b n) off nv x2 7 k e k')) := fun hb => by
        obtain ⟨g1, g2⟩ := rd_fail (e := 3) hp h
        refine ⟨0, _, ?_, g2, Or.inr ⟨rfl, 3, k, g1, ⟨by omega, by omega⟩, fun bb m out W τ T hm _ _ => SYe.wx e2 hb hm⟩⟩
        unfold F_Reader_readTerm_36
        rw [q2_of (show F_Reader_fail 3 C = _ from c_fail (e := 3)), nar0]
      rw [y_lt]
      by_cases e3 : kk b n k < 14 + off
      · rw [if_pos (show nI (kk b n k) - nI (14 + off) < 0 by
          rw [Int32.lt_iff_toInt_lt, Int32.toInt_sub, nI_toInt (by omega), nI_toInt (by omega), Int.bmod_eq_of_le (by omega) (by omega)]
          show _ < (0 : Int)
          omega)]
        exact bad (by omega)
      · rw [x_sub (by omega), if_neg (nI_pos (by omega))]
        by_cases e4 : kk b n k < 14 + off + nv
        · rw [if_pos (nI_lt (by omega) (by omega)), show (10000 : Int32) + nI (kk b n k - (14 + off)) = nI (10000 + (kk b n k - (14 + off))) from nI_add 10000 _]
          have hk7 := h.2.2.2.2
          have hkn := kk_n (b := b) (n := n) (k := k) (by omega)
          have hn7 := h.1.1.1
          have ad := c_add (x := nI (10000 + (kk b n k - (14 + off)))) hp h.2.2.2.1.1 (by omega)
          have hcs : csf p u0 C (sd_up (sd_up C (p + 1) (u0 + st.length) (nI (10000 + (kk b n k - (14 + off))))) p 1 (nI (u0 + st.length + 1))) := csf.refl.add hp (by omega)
          generalize hC3 : sd_up (sd_up C (p + 1) (u0 + st.length) (nI (10000 + (kk b n k - (14 + off))))) p 1 (nI (u0 + st.length + 1)) = C3 at ad hcs
          have t3 : tks b n C3 := tks_of h.1 (hcs.1 4 (by omega) (by omega) (by omega)) (hcs.1 5 (by omega) (by omega) (by omega)) (hcs.1 6 (by omega) (by omega) (by omega)) (hcs.1 7 (by omega) (by omega) (by omega))
          have e3' : C3 3 = C 3 := by rw [← hC3, up_n (by omega), up_n (by omega)]
          have t4 : tks b n (sd_up C3 3 1 (nI (k + 1))) := tks_of t3 (up_n (by omega)) (up_n (by omega)) (up_n (by omega)) (up_n (by omega))
          have kd := tks_k (k := k + 1) t4 (by omega)
          have len : (st ++ [10000 + (kk b n k - (14 + off))]).length = st.length + 1 := by rw [List.length_append]; rfl
          have hst : F_Reader_step C3 = some (sd_up (sd_up C3 3 1 (nI (k + 1))) 3 2 (nI (kk b n (k + 1)))) := by
            unfold F_Reader_step
            rw [e3', h.2.1.1, show nI k + 1 = nI (k + 1) from nI_add k 1, y_lt, show sd_up C3 3 1 (nI (k + 1)) 3 1 = nI (k + 1) from up_s, q1_of kd, y_lt]
          refine ⟨1, _, by rw [q1_of ad, q1_of hst], hcs.trans ((csf.refl.up hp (by omega)).up hp (by omega)), Or.inl ⟨rfl, k + 1, [10000 + (kk b n k - (14 + off))], ⟨tks_of t4 (up_n (by omega)) (up_n (by omega)) (up_n (by omega)) (up_n (by omega)), ⟨by rw [up_m (by omega)]; exact up_s, up_s⟩, ⟨by rw [up_m (by omega), up_m (by omega), e3']; exact h.2.2.1.1, by rw [up_m (by omega), up_m (by omega), e3']; exact h.2.2.1.2⟩, ⟨?_, fun i s hi => ?_⟩, by rw [len]; omega, by omega⟩, by omega, okq_up (okq_1 (by omega)) hD, fun τ => ql_7, fun bb m out W τ T rr _ hT _ hh => ?_⟩⟩
          · rw [up_n (by omega), up_n (by omega), ← hC3, up_s, len, Nat.add_assoc]
          · rw [up_n (by omega), up_n (by omega), ← hC3, up_n (by omega)]
            rcases snoc_at hi with ⟨rfl, rfl⟩ | ⟨z1, z2⟩
            · exact up_s
            · rw [up_m (by omega)]; exact h.2.2.2.1.2 i s z2
          · refine SYe.wo (by omega) e4 ?_
            have hm : mcf off [10000 + (kk b n k - (14 + off))] = [2, kk b n k - 14] := by
              show mco off _ ++ [] = _
              rw [List.append_nil]
              unfold mco
              rw [if_neg (by omega), if_pos (by omega), show 10000 + (kk b n k - (14 + off)) - 10000 + off = kk b n k - 14 by omega]
            rw [hm] at hh
            exact hh
        · rw [if_neg (nI_nlt (by omega) (by omega))]
          exact bad (by omega)
    · have aw : F_Reader_atWord C = some 0 := by
        unfold F_Reader_atWord
        rw [h32, if_neg (nI_pos (by omega)), if_pos (show (24 : Int32) < nI (kk b n k) from nI_lt (a := 24) (by omega) (by omega))]
      rw [q1_of aw, if_pos rfl]
      unfold F_Reader_readNumber F_Reader_readNumber_21
      by_cases e3 : 10000 ≤ kk b n k
      · have an : F_Reader_atNumber C = some 1 := by
          unfold F_Reader_atNumber
          rw [h32, if_pos (show (10000 : Int32) ≤ nI (kk b n k) from nI_le (a := 10000) e3 (by omega))]
        have h3 : rd b n p off nv u0 k st w (sd_up C 3 3 (nI (kk b n k - 10000))) := by
          obtain ⟨h1, ⟨h2, h3⟩, ⟨h4, h5⟩, ⟨h6, h7⟩, h8, h9⟩ := h
          exact ⟨tks_of h1 (up_n (by omega)) (up_n (by omega)) (up_n (by omega)) (up_n (by omega)), ⟨by rw [up_m (by omega)]; exact h2, by rw [up_m (by omega)]; exact h3⟩, ⟨by rw [up_m (by omega)]; exact h4, by rw [up_m (by omega)]; exact h5⟩, ⟨by rw [up_n (by omega)]; exact h6, fun i s hs => by rw [up_n (by omega)]; exact h7 i s hs⟩, h8, h9⟩
        obtain ⟨C1, s1, s2, s3⟩ := c_step hp h3 (by omega)
        have e33 : C1 3 3 = nI (kk b n k - 10000) := by
          unfold F_Reader_step at s1
          have hkn := kk_n (b := b) (n := n) (k := k) (by omega)
          have hn7 := h.1.1.1
          have t4 : tks b n (sd_up (sd_up C 3 3 (nI (kk b n k - 10000))) 3 1 (nI (k + 1))) := tks_of h3.1 (up_n (by omega)) (up_n (by omega)) (up_n (by omega)) (up_n (by omega))
          rw [h3.2.1.1, show nI k + 1 = nI (k + 1) from nI_add k 1, y_lt, show sd_up (sd_up C 3 3 (nI (kk b n k - 10000))) 3 1 (nI (k + 1)) 3 1 = nI (k + 1) from up_s, q1_of (tks_k (k := k + 1) t4 (by omega)), y_lt] at s1
          cases s1
          rw [up_m (by omega), up_m (by omega)]
          exact up_s
        obtain ⟨C2, a1, a2, a3⟩ := rd_add (c := kk b n k - 10000) hp s2
        refine ⟨1, C2, ?_, ((csf.refl.up hp (by omega)).trans s3).trans a3, Or.inl ⟨rfl, k + 1, [kk b n k - 10000], a2, by omega, okq_up (okq_1 (by omega)) hD, fun τ => ql_7, fun bb m out W τ T rr _ hT _ hh => ?_⟩⟩
        · rw [q1_of an, if_pos (by decide), h32, show nI (kk b n k) - 10000 = nI (kk b n k - 10000) from x_sub (b := 10000) e3, y_lt, show sd_up C 3 3 (nI (kk b n k - 10000)) 3 3 = nI (kk b n k - 10000) from up_s, if_neg (nI_pos (by omega)), if_pos (show nI (kk b n k - 10000) ≤ 9999 from nI_le (b := 9999) (by omega) (by omega)), q1_of s1, y_q2, if_pos (by decide), e33, q1_of a1]
        · refine SYe.nu e3 ?_
          have hm : mcf off [kk b n k - 10000] = [1, kk b n k - 10000] := by
            show mco off _ ++ [] = _
            rw [List.append_nil]
            unfold mco
            rw [if_pos (by omega)]
          rw [hm] at hh
          exact hh
      · by_cases e4 : kk b n k = 31
        · have an : F_Reader_atNumber C = some 1 := by
            unfold F_Reader_atNumber
            rw [h32, e4]
            rfl
          have h3 : rd b n p off nv u0 k st w (sd_up C 3 3 (31 - 10000)) := by
            obtain ⟨h1, ⟨h2, h3⟩, ⟨h4, h5⟩, ⟨h6, h7⟩, h8, h9⟩ := h
            exact ⟨tks_of h1 (up_n (by omega)) (up_n (by omega)) (up_n (by omega)) (up_n (by omega)), ⟨by rw [up_m (by omega)]; exact h2, by rw [up_m (by omega)]; exact h3⟩, ⟨by rw [up_m (by omega)]; exact h4, by rw [up_m (by omega)]; exact h5⟩, ⟨by rw [up_n (by omega)]; exact h6, fun i s hs => by rw [up_n (by omega)]; exact h7 i s hs⟩, h8, h9⟩
          obtain ⟨g1, g2⟩ := rd_fail (e := 2) hp h3
          refine ⟨0, _, ?_, (csf.refl.up hp (by omega)).trans g2, Or.inr ⟨rfl, 2, k, g1, ⟨by omega, by omega⟩, fun bb m out W τ T hm _ _ => SYe.nl e4⟩⟩
          rw [q1_of an, if_pos (by decide), h32, e4, y_lt, show sd_up C 3 3 (nI 31 - 10000) 3 3 = nI 31 - 10000 from up_s, if_pos (by decide), q2_of (show F_Reader_fail 2 _ = _ from c_fail (e := 2)), nar0, y_q2, if_neg (by decide)]
          rfl
        · have an : F_Reader_atNumber C = some 0 := by
            unfold F_Reader_atNumber
            rw [h32, if_neg (show ¬ (10000 : Int32) ≤ nI (kk b n k) from nI_ge (b := 10000) (by omega) (by omega)), if_pos (show ¬ nI (kk b n k) = 31 from fun z => e4 ((nI_eq (b := 31) (by omega) (by omega)).mp z))]
          obtain ⟨g1, g2⟩ := rd_fail (e := 1) hp h
          refine ⟨0, _, ?_, g2, Or.inr ⟨rfl, 1, k, g1, ⟨by omega, by omega⟩, fun bb m out W τ T hm _ _ => SYe.ot (by omega) e4 e1 (by omega)⟩⟩
          rw [q1_of an, if_neg (sn_nn rfl), q2_of (show F_Reader_fail 1 _ = _ from c_fail (e := 1)), nar0, y_q2, if_neg (by decide)]
end RT
