/-! ===== operands of the model's expressions ===== -/
def ms (b : Nat → Nat) (n a0 off nv k : Nat) (out W T : List Nat) (M : sm_MI) (J : sm_MJ) : Prop := tok b n k M J ∧ (M 61 16 = 0 ∧ M 61 17 = -1) ∧ xs a0 out W T M ∧ (a0 + out.length + W.length ≤ 2 * k ∧ W.length ≤ k ∧ 1 ≤ T.length ∧ T.length ≤ 6 ∧ k ≤ 700) ∧ M 61 31 = nI off ∧ M 61 32 = nI (off + nv - 1)
theorem mkw_23 : ∀ κ, (mkw κ = 23 ↔ κ = 13) ∧ (mkw κ = 21 ↔ κ = 12) ∧ (mkw κ = 22 ↔ κ = 11) := by
  intro κ
  by_cases h : κ < 24
  · have key : ∀ κ, κ < 24 → (mkw κ = 23 ↔ κ = 13) ∧ (mkw κ = 21 ↔ κ = 12) ∧ (mkw κ = 22 ↔ κ = 11) := by decide +kernel
    exact key κ h
  · rw [mkw_no (by omega)]
    refine ⟨⟨fun z => absurd z (by decide), fun z => by omega⟩, ⟨fun z => absurd z (by decide), fun z => by omega⟩, fun z => absurd z (by decide), fun z => by omega⟩
theorem nI_sur (x : Int32) : ∃ c, x = nI c := ⟨x.toBitVec.toNat, by
  apply Int32.toBitVec_inj.1
  show x.toBitVec = BitVec.ofNat 32 x.toBitVec.toNat
  rw [BitVec.ofNat_toNat, BitVec.setWidth_eq]⟩
section SX
variable {b : Nat → Nat} {n a0 off nv k : Nat} {out W T : List Nat} {M M' M2 : sm_MI} {J J' : sm_MJ}
theorem ms_go (ht : tok b n k M J) (h16 : M 61 16 = 0 ∧ M 61 17 = -1) (hx : xs a0 out W T M) (h31 : M 61 31 = nI off ∧ M 61 32 = nI (off + nv - 1)) (hk : kk b n k ≠ 33) (h1 : a0 + out.length + W.length ≤ 2 * (k + 1)) (h2 : W.length ≤ k + 1) (h3 : 1 ≤ T.length) (h4 : T.length ≤ 6) :
    ∃ M' J', F_Mo_goes M J = some (M', J') ∧ ms b n a0 off nv (k + 1) out W T M' J' ∧ xsm a0 M M' ∧ jsm J J' := by
  obtain ⟨M', J', g1, g2, g3, g4⟩ := m_goes ht
  have := kk_n hk
  have := ht.1.1
  exact ⟨M', J', g1, ⟨g2, ⟨by rw [g3.2 16 (by omega)]; exact h16.1, by rw [g3.2 17 (by omega)]; exact h16.2⟩, xs_go hx g3, ⟨h1, h2, h3, h4, by omega⟩, by rw [g3.2 31 (by omega)]; exact h31.1, by rw [g3.2 32 (by omega)]; exact h31.2⟩, g3.xs, g4⟩
/-- two codes are put -/
theorem m_put2 {c d : Nat} (hx : xs a0 out W T M) (hl : a0 + out.length < 2700) : ∃ M1 M2, F_Mo_puts (nI c) M = some M1 ∧ F_Mo_puts (nI d) M1 = some M2 ∧ xs a0 (out ++ [c, d]) W T M2 ∧ xsm a0 M M2 ∧ (∀ j, j ≠ 30 → M1 61 j = M 61 j) ∧ (∀ j, j ≠ 30 → M2 61 j = M 61 j) ∧ M2 72 = M 72 := by
  have p1 := m_puts (c := c) hx (by omega)
  have x1 := xs_puts (c := c) hx
  have p2 := m_puts (c := d) x1 (by rw [List.length_append]; have : [c].length = 1 := rfl; omega)
  have x2 := xs_puts (c := d) x1
  rw [List.append_assoc] at x2
  exact ⟨_, _, p1, p2, x2, xm_puts (xm_puts xsm.refl), fun j hj => by rw [up_m hj, up_n (by omega)], fun j hj => by rw [up_m hj, up_n (by omega), up_m hj, up_n (by omega)], by rw [up_n (by omega), up_n (by omega), up_n (by omega), up_n (by omega)]⟩
theorem m_pnum (h : ms b n a0 off nv k out W T M J) (hk : 10000 ≤ kk b n k) : ∃ M' J', F_Mo_part M J = some (M', J') ∧ ms b n a0 off nv (k + 1) (out ++ [1, kk b n k - 10000]) W T M' J' ∧ xsm a0 M M' ∧ jsm J J' := by
  obtain ⟨ht, h16, hx, ⟨b1, b2, b3, b4, b5⟩, h31⟩ := h
  have hlt := ht.lt
  obtain ⟨⟨l, l1, l2⟩, l3⟩ := ht.2.2.2.2.2.1 hk
  have hso : M 61 21 = 2 := by rw [ht.so]; unfold so; rw [if_neg (by omega), if_neg (by omega), if_neg (by omega), if_neg (by omega), if_neg (by omega)]; rfl
  obtain ⟨M1, M2, p1, p2, x2, s2, e1, e2, e72⟩ := m_put2 (c := 1) (d := kk b n k - 10000) hx (by omega)
  have len : (out ++ [1, kk b n k - 10000]).length = out.length + 2 := by rw [List.length_append]; rfl
  obtain ⟨M', J', g1, g2, g3, g4⟩ := ms_go (off := off) (nv := nv) (tok_of ht (fun j j1 j2 => e2 j (by omega)) e72) ⟨by rw [e2 16 (by omega)]; exact h16.1, by rw [e2 17 (by omega)]; exact h16.2⟩ x2 ⟨by rw [e2 31 (by omega)]; exact h31.1, by rw [e2 32 (by omega)]; exact h31.2⟩ (by omega) (by rw [len]; omega) (by omega) b3 b4
  refine ⟨M', J', ?_, g2, s2.trans g3, g4⟩
  unfold F_Mo_part F_Mo_part_15 F_Mo_part_51
  rw [q1_of (m_good h16.1), if_pos (by decide), if_neg (sn_nn hso), l2, if_pos (show nI l ≤ 4 from nI_le (b := 4) l1 (by omega)), q1_of (show F_Mo_puts 1 M = some M1 from p1), e1 24 (by omega), l3, q1_of p2, q1_of (m_good (by rw [e2 16 (by omega)]; exact h16.1)), if_neg (by decide), q2_of g1]
theorem m_pword (h : ms b n a0 off nv k out W T M J) (hk : 14 + off ≤ kk b n k) (hk2 : kk b n k < 14 + off + nv) (ho : off + nv ≤ 10) : ∃ M' J', F_Mo_part M J = some (M', J') ∧ ms b n a0 off nv (k + 1) (out ++ [2, kk b n k - 14]) W T M' J' ∧ xsm a0 M M' ∧ jsm J J' := by
  obtain ⟨ht, h16, hx, ⟨b1, b2, b3, b4, b5⟩, h31⟩ := h
  have hso : M 61 21 = 1 := by rw [ht.so]; unfold so; rw [if_pos (by omega)]; rfl
  have hkw : F_Mo_knownWord M J = some (nI (kk b n k - 14)) := by
    rw [ht.kw]; unfold mkw; rw [if_neg (by omega), if_neg (by omega), if_neg (by omega), if_neg (by omega), if_pos (by omega)]
  obtain ⟨M1, M2, p1, p2, x2, s2, e1, e2, e72⟩ := m_put2 (c := 2) (d := kk b n k - 14) hx (by omega)
  have len : (out ++ [2, kk b n k - 14]).length = out.length + 2 := by rw [List.length_append]; rfl
  obtain ⟨M', J', g1, g2, g3, g4⟩ := ms_go (off := off) (nv := nv) (tok_of ht (fun j j1 j2 => e2 j (by omega)) e72) ⟨by rw [e2 16 (by omega)]; exact h16.1, by rw [e2 17 (by omega)]; exact h16.2⟩ x2 ⟨by rw [e2 31 (by omega)]; exact h31.1, by rw [e2 32 (by omega)]; exact h31.2⟩ (by omega) (by rw [len]; omega) (by omega) b3 b4
  refine ⟨M', J', ?_, g2, s2.trans g3, g4⟩
  unfold F_Mo_part F_Mo_part_41 F_Mo_part_51
  rw [q1_of (m_good h16.1), if_pos (by decide), hso, if_pos (by decide), if_neg (sn_nn rfl), q1_of hkw, h31.1, if_neg (nI_nlt (by omega) (by omega)), h31.2, if_pos (nI_le (by omega) (by omega)), q1_of (show F_Mo_puts 2 M = some M1 from p1), q1_of p2, q1_of (m_good (by rw [e2 16 (by omega)]; exact h16.1)), if_neg (by decide), q2_of g1]
/-- an operand that is none -/
def pbad (b : Nat → Nat) (n a0 k e : Nat) (out W T : List Nat) (M : sm_MI) (J : sm_MJ) : Prop := ∃ M' out', F_Mo_part M J = some (M', J) ∧ xs a0 out' W T M' ∧ out'.length ≤ out.length + 2 ∧ M' 61 16 = nI e ∧ M' 61 17 = nI (tp b n k) ∧ xsm a0 M M'
theorem m_plong (h : ms b n a0 off nv k out W T M J) (hk : kk b n k = 31) : pbad b n a0 k 2 out W T M J := by
  obtain ⟨ht, h16, hx, ⟨b1, b2, b3, b4, b5⟩, h31⟩ := h
  obtain ⟨l, l1, l2, l3⟩ := ht.2.2.2.2.1 hk
  have hso : M 61 21 = 2 := by rw [ht.so, hk]; rfl
  have hw := m_wrong (e := 2) h16.1 ht.pl
  have hxb := xs_bad (e := nI 2) (v := nI (tp b n k)) hx
  have s1 : xsm a0 M (sd_up (sd_up M 61 16 (nI 2)) 61 17 (nI (tp b n k))) := (xsm.refl.up (by omega)).up (by omega)
  have w16 : sd_up (sd_up M 61 16 (nI 2)) 61 17 (nI (tp b n k)) 61 16 = nI 2 := by rw [up_m (by omega)]; exact up_s
  have w17 : sd_up (sd_up M 61 16 (nI 2)) 61 17 (nI (tp b n k)) 61 17 = nI (tp b n k) := up_s
  generalize sd_up (sd_up M 61 16 (nI 2)) 61 17 (nI (tp b n k)) = Mw at hw hxb s1 w16 w17
  obtain ⟨d, hd⟩ := nI_sur (Mw 61 24)
  obtain ⟨M1, M2, p1, p2, x2, s2, e1, e2, e72⟩ := m_put2 (c := 1) (d := d) hxb (by omega)
  refine ⟨M2, _, ?_, x2, by rw [List.length_append]; exact Nat.le_refl _, by rw [e2 16 (by omega)]; exact w16, by rw [e2 17 (by omega)]; exact w17, s1.trans s2⟩
  unfold F_Mo_part F_Mo_part_15 F_Mo_part_51
  rw [q1_of (m_good h16.1), if_pos (by decide), if_neg (sn_nn hso), l3, if_neg (show ¬ nI l ≤ 4 from nI_ge (a := 4) l1 (by omega)), q1_of (show F_Mo_wrong 2 M = some Mw from hw), q1_of (show F_Mo_puts 1 Mw = some M1 from p1), e1 24 (by omega), hd, q1_of p2, q1_of (m_bad (e := 2) (by rw [e2 16 (by omega)]; exact w16) (by omega) (by omega)), if_pos rfl]
theorem m_pbadw (h : ms b n a0 off nv k out W T M J) (hk : kk b n k < 25) (hk2 : ¬ (14 + off ≤ kk b n k ∧ kk b n k < 14 + off + nv)) (ho : (off = 0 ∧ nv = 6) ∨ (off = 6 ∧ nv = 4)) : pbad b n a0 k 3 out W T M J := by
  obtain ⟨ht, h16, hx, ⟨b1, b2, b3, b4, b5⟩, h31⟩ := h
  have hso : M 61 21 = 1 := by rw [ht.so]; unfold so; rw [if_pos hk]; rfl
  have hw := m_wrong (e := 3) h16.1 ht.pl
  have hxb := xs_bad (e := nI 3) (v := nI (tp b n k)) hx
  have s1 : xsm a0 M (sd_up (sd_up M 61 16 (nI 3)) 61 17 (nI (tp b n k))) := (xsm.refl.up (by omega)).up (by omega)
  have w16 : sd_up (sd_up M 61 16 (nI 3)) 61 17 (nI (tp b n k)) 61 16 = nI 3 := by rw [up_m (by omega)]; exact up_s
  have w17 : sd_up (sd_up M 61 16 (nI 3)) 61 17 (nI (tp b n k)) 61 17 = nI (tp b n k) := up_s
  generalize sd_up (sd_up M 61 16 (nI 3)) 61 17 (nI (tp b n k)) = Mw at hw hxb s1 w16 w17
  obtain ⟨d, hd⟩ := nI_sur (mkw (kk b n k))
  obtain ⟨M1, M2, p1, p2, x2, s2, e1, e2, e72⟩ := m_put2 (c := 2) (d := d) hxb (by omega)
  refine ⟨M2, _, ?_, x2, by rw [List.length_append]; exact Nat.le_refl _, by rw [e2 16 (by omega)]; exact w16, by rw [e2 17 (by omega)]; exact w17, s1.trans s2⟩
  have k38 : F_Mo_part_38 (mkw (kk b n k)) M J = some (M2, J) := by
    unfold F_Mo_part_38 F_Mo_part_41 F_Mo_part_51
    rw [q1_of (show F_Mo_wrong 3 M = some Mw from hw), q1_of (show F_Mo_puts 2 Mw = some M1 from p1), hd, q1_of p2, q1_of (m_bad (e := 3) (by rw [e2 16 (by omega)]; exact w16) (by omega) (by omega)), if_pos rfl]
  have key1 : ∀ κ, κ < 25 → ¬ (14 + 0 ≤ κ ∧ κ < 14 + 0 + 6) → mkw κ < nI 0 ∨ ¬ mkw κ ≤ nI (0 + 6 - 1) := by decide +kernel
  have key2 : ∀ κ, κ < 25 → ¬ (14 + 6 ≤ κ ∧ κ < 14 + 6 + 4) → mkw κ < nI 6 ∨ ¬ mkw κ ≤ nI (6 + 4 - 1) := by decide +kernel
  have key : mkw (kk b n k) < nI off ∨ ¬ mkw (kk b n k) ≤ nI (off + nv - 1) := by
    rcases ho with ⟨rfl, rfl⟩ | ⟨rfl, rfl⟩
    · exact key1 _ hk hk2
    · exact key2 _ hk hk2
  unfold F_Mo_part
  rw [q1_of (m_good h16.1), if_pos (by decide), hso, if_pos (by decide), if_neg (sn_nn rfl), q1_of ht.kw, h31.1, h31.2]
  by_cases e : mkw (kk b n k) < nI off
  · rw [if_pos e]; exact k38
  · rw [if_neg e]
    rw [if_neg (key.resolve_left e)]
    exact k38
theorem m_pother (h : ms b n a0 off nv k out W T M J) (h1 : 25 ≤ kk b n k) (h2 : kk b n k ≠ 31) (h3 : kk b n k < 10000) : pbad b n a0 k 1 out W T M J := by
  obtain ⟨ht, h16, hx, ⟨b1, b2, b3, b4, b5⟩, h31⟩ := h
  have hso : ¬ M 61 21 = 2 ∧ ¬ M 61 21 = 1 := by
    rw [ht.so]
    have hs := so_lt (q := kk b n k)
    have e1 : so (kk b n k) ≠ 2 := by unfold so; rw [if_neg (by omega), if_neg h2]; repeat (first | omega | split)
    have e2 : so (kk b n k) ≠ 1 := by unfold so; rw [if_neg (by omega), if_neg h2]; repeat (first | omega | split)
    exact ⟨fun z => e1 ((nI_eq (b := 2) (by omega) (by omega)).mp z), fun z => e2 ((nI_eq (b := 1) (by omega) (by omega)).mp z)⟩
  have hw := m_wrong (e := 1) h16.1 ht.pl
  have w16 : sd_up (sd_up M 61 16 (nI 1)) 61 17 (nI (tp b n k)) 61 16 = nI 1 := by rw [up_m (by omega)]; exact up_s
  refine ⟨_, out, ?_, xs_bad hx, by omega, w16, up_s, (xsm.refl.up (by omega)).up (by omega)⟩
  unfold F_Mo_part F_Mo_part_51
  rw [q1_of (m_good h16.1), if_pos (by decide), if_pos hso.1, if_pos hso.2, q1_of (show F_Mo_wrong 1 M = _ from hw), q1_of (m_bad (e := 1) w16 (by omega) (by omega)), if_pos rfl]
end SX
