/-! ===== lines: numbers and signs, of the class and of the model ===== -/
def ck (b : Nat → Nat) (n k : Nat) (C : sm_MI) : Prop := tks b n C ∧ C 3 1 = nI k ∧ C 3 2 = nI (kk b n k)
def mk (b : Nat → Nat) (n k : Nat) (M : sm_MI) (J : sm_MJ) : Prop := tok b n k M J ∧ M 61 16 = 0 ∧ M 61 17 = -1
def c3 (C C' : sm_MI) : Prop := (∀ j, j ≠ 3 → C' j = C j) ∧ ∀ j, j ≠ 1 → j ≠ 2 → j ≠ 3 → j ≠ 7 → C' 3 j = C 3 j
def m3 (M M' : sm_MI) : Prop := (∀ k, k ≠ 61 → M' k = M k) ∧ ∀ j, (j < 16 ∨ j = 18 ∨ j = 19 ∨ 25 < j) → M' 61 j = M 61 j
def cbad (e k : Nat) (C : sm_MI) : Prop := C 3 7 = nI e ∧ C 3 1 = nI k
def mbad (b : Nat → Nat) (n e k : Nat) (M : sm_MI) : Prop := (M 61 16 = nI e ∧ M 61 17 = nI (tp b n k)) ∧ 0 < e ∧ e < 10
def nm (κ x y : Nat) : Option Nat := if 10000 + x ≤ κ ∧ κ ≤ 10000 + y then some (κ - 10000) else none
def ne (κ : Nat) : Nat := if 10000 ≤ κ ∨ κ = 31 then 2 else 1
section LN
variable {b : Nat → Nat} {n k x y : Nat} {C C' C2 M M' M2 : sm_MI} {J J' : sm_MJ}
theorem c3.refl : c3 C C := ⟨fun _ _ => rfl, fun _ _ _ _ _ => rfl⟩
theorem c3.trans (h : c3 C C') (g : c3 C' C2) : c3 C C2 := ⟨fun j h1 => by rw [g.1 j h1, h.1 j h1], fun j h1 h2 h3 h4 => by rw [g.2 j h1 h2 h3 h4, h.2 j h1 h2 h3 h4]⟩
theorem c3.up {j : Nat} {z : Int32} (h : c3 C C') (hj : j = 1 ∨ j = 2 ∨ j = 3 ∨ j = 7) : c3 C (sd_up C' 3 j z) := h.trans ⟨fun i h1 => up_n h1, fun i h1 h2 h3 h4 => up_m (by omega)⟩
theorem m3.refl : m3 M M := ⟨fun _ _ => rfl, fun _ _ => rfl⟩
theorem m3.trans (h : m3 M M') (g : m3 M' M2) : m3 M M2 := ⟨fun j h1 => by rw [g.1 j h1, h.1 j h1], fun j h1 => by rw [g.2 j h1, h.2 j h1]⟩
theorem ksm.m3 (h : ksm M M') : m3 M M' := ⟨h.1, fun j hj => h.2 j (by omega)⟩
theorem m3.bad {u v : Int32} : m3 M (sd_up (sd_up M 61 16 u) 61 17 v) := ⟨fun k hk => by rw [up_n hk, up_n hk], fun j hj => by rw [up_m (by omega), up_m (by omega)]⟩
theorem ck.lt (h : ck b n k C) : kk b n k < 20000 := h.1.lt
theorem ck_of (h : ck b n k C) (e : ∀ j, j < 21 → C' j = C j) : ck b n k C' := ⟨tks_of h.1 (e 4 (by omega)) (e 5 (by omega)) (e 6 (by omega)) (e 7 (by omega)), by rw [e 3 (by omega)]; exact h.2.1, by rw [e 3 (by omega)]; exact h.2.2⟩
theorem ck_up {i j : Nat} {z : Int32} (h : ck b n k C) (hi : 8 ≤ i ∨ (i = 3 ∧ 3 ≤ j)) : ck b n k (sd_up C i j z) := by
  rcases hi with hi | ⟨rfl, hj⟩
  · exact ⟨tks_of h.1 (up_n (by omega)) (up_n (by omega)) (up_n (by omega)) (up_n (by omega)), by rw [up_n (by omega)]; exact h.2.1, by rw [up_n (by omega)]; exact h.2.2⟩
  · exact ⟨tks_of h.1 (up_n (by omega)) (up_n (by omega)) (up_n (by omega)) (up_n (by omega)), by rw [up_m (by omega)]; exact h.2.1, by rw [up_m (by omega)]; exact h.2.2⟩
theorem mk_up {i j : Nat} {z : Int32} (h : mk b n k M J) (hi : (62 ≤ i ∧ i ≠ 72) ∨ (i = 61 ∧ 25 < j)) : mk b n k (sd_up M i j z) J := by
  rcases hi with hi | ⟨rfl, hj⟩
  · exact ⟨tok_up h.1 (by omega) (by omega), by rw [up_n (by omega)]; exact h.2.1, by rw [up_n (by omega)]; exact h.2.2⟩
  · exact ⟨tok_up h.1 (by omega) (by omega), by rw [up_m (by omega)]; exact h.2.1, by rw [up_m (by omega)]; exact h.2.2⟩
theorem ck_step (h : ck b n k C) (hk : k ≤ 701) : ∃ C', F_Reader_step C = some C' ∧ ck b n (k + 1) C' ∧ c3 C C' ∧ ∀ j, j ≠ 1 → j ≠ 2 → C' 3 j = C 3 j := by
  have t1 : tks b n (sd_up C 3 1 (nI (k + 1))) := tks_of h.1 (up_n (by omega)) (up_n (by omega)) (up_n (by omega)) (up_n (by omega))
  have kd := tks_k (k := k + 1) t1 (by omega)
  refine ⟨sd_up (sd_up C 3 1 (nI (k + 1))) 3 2 (nI (kk b n (k + 1))), ?_, ⟨tks_of t1 (up_n (by omega)) (up_n (by omega)) (up_n (by omega)) (up_n (by omega)), by rw [up_m (by omega)]; exact up_s, up_s⟩, (c3.refl.up (by omega)).up (by omega), fun j h1 h2 => by rw [up_m h2, up_m h1]⟩
  unfold F_Reader_step
  rw [h.2.1, show nI k + 1 = nI (k + 1) from nI_add k 1, y_lt, show sd_up C 3 1 (nI (k + 1)) 3 1 = nI (k + 1) from up_s, q1_of kd, y_lt]
theorem mk_goes (h : mk b n k M J) : ∃ M' J', F_Mo_goes M J = some (M', J') ∧ mk b n (k + 1) M' J' ∧ ksm M M' ∧ jsm J J' := by
  obtain ⟨M', J', g1, g2, g3, g4⟩ := m_goes h.1
  exact ⟨M', J', g1, ⟨g2, by rw [g3.2 16 (by omega)]; exact h.2.1, by rw [g3.2 17 (by omega)]; exact h.2.2⟩, g3, g4⟩
theorem mk_wrong {e : Nat} (h : mk b n k M J) (he : 0 < e ∧ e < 10) : ∃ M', F_Mo_wrong (nI e) M = some M' ∧ mbad b n e k M' ∧ m3 M M' := ⟨_, m_wrong h.2.1 h.1.pl, ⟨⟨by rw [up_m (by omega)]; exact up_s, up_s⟩, he⟩, m3.bad⟩
theorem mbad.bad {e : Nat} (h : mbad b n e k M) : F_Mo_isGood M = some 0 := m_bad h.1.1 h.2.1 h.2.2
theorem mk.good (h : mk b n k M J) : F_Mo_isGood M = some 1 := m_good h.2.1
theorem mbad_up {e i j : Nat} {z : Int32} (h : mbad b n e k M) (hi : i = 61 → 17 < j) : mbad b n e k (sd_up M i j z) := by
  refine ⟨⟨?_, ?_⟩, h.2⟩
  · by_cases g : i = 61
    · subst g; rw [up_m (by have := hi rfl; omega)]; exact h.1.1
    · rw [up_n (fun z => g z.symm)]; exact h.1.1
  · by_cases g : i = 61
    · subst g; rw [up_m (by have := hi rfl; omega)]; exact h.1.2
    · rw [up_n (fun z => g z.symm)]; exact h.1.2
theorem c_numr (h : ck b n k C) (hk : k ≤ 701) (hx : x < 100) (hy : y < 100) : ∃ r C', F_Reader_readNumber (nI x) (nI y) C = some (r, C') ∧ c3 C C' ∧ ((r = 1 ∧ ∃ v, nm (kk b n k) x y = some v ∧ C' 3 3 = nI v ∧ ck b n (k + 1) C') ∨ (r = 0 ∧ nm (kk b n k) x y = none ∧ cbad (ne (kk b n k)) k C')) := by
  have hlt := h.lt
  unfold F_Reader_readNumber F_Reader_readNumber_21
  by_cases e1 : 10000 ≤ kk b n k
  · have an : F_Reader_atNumber C = some 1 := by
      unfold F_Reader_atNumber
      rw [h.2.2, if_pos (show (10000 : Int32) ≤ nI (kk b n k) from nI_le (a := 10000) e1 (by omega))]
    rw [q1_of an, if_pos (by decide), h.2.2, show nI (kk b n k) - 10000 = nI (kk b n k - 10000) from x_sub (b := 10000) e1, y_lt, show sd_up C 3 3 (nI (kk b n k - 10000)) 3 3 = nI (kk b n k - 10000) from up_s]
    have hc : ck b n k (sd_up C 3 3 (nI (kk b n k - 10000))) := ck_up h (by omega)
    have bad : nm (kk b n k) x y = none → ∃ r C', (sd_q2 (F_Reader_fail 2 (sd_up C 3 3 (nI (kk b n k - 10000)))) fun r1 I2 => some ((vp_nar .boolean r1 : Int32), I2)) = some (r, C') ∧ c3 C C' ∧ ((r = 1 ∧ ∃ v, nm (kk b n k) x y = some v ∧ C' 3 3 = nI v ∧ ck b n (k + 1) C') ∨ (r = 0 ∧ nm (kk b n k) x y = none ∧ cbad (ne (kk b n k)) k C')) := fun z =>
      ⟨0, _, by rw [q2_of (show F_Reader_fail 2 _ = _ from c_fail (e := 2)), nar0], (c3.refl.up (by omega)).up (by omega), Or.inr ⟨rfl, z, by unfold ne; rw [if_pos (Or.inl e1)]; exact up_s, by rw [up_m (by omega)]; exact hc.2.1⟩⟩
    by_cases e2 : kk b n k - 10000 < x
    · rw [if_pos (nI_lt e2 (by omega))]
      exact bad (by unfold nm; rw [if_neg (by omega)])
    · rw [if_neg (nI_nlt (by omega) (by omega))]
      by_cases e3 : kk b n k - 10000 ≤ y
      · rw [if_pos (nI_le e3 (by omega))]
        obtain ⟨C1, s1, s2, s3, s4⟩ := ck_step hc hk
        exact ⟨1, C1, by rw [q1_of s1], (c3.refl.up (by omega)).trans s3, Or.inl ⟨rfl, kk b n k - 10000, by unfold nm; rw [if_pos (by omega)], by rw [s4 3 (by omega) (by omega)]; exact up_s, s2⟩⟩
      · rw [if_neg (nI_ge (by omega) (by omega))]
        exact bad (by unfold nm; rw [if_neg (by omega)])
  · have hn : nm (kk b n k) x y = none := by unfold nm; rw [if_neg (by omega)]
    by_cases e2 : kk b n k = 31
    · have an : F_Reader_atNumber C = some 1 := by
        unfold F_Reader_atNumber
        rw [h.2.2, e2]
        rfl
      refine ⟨0, sd_up (sd_up C 3 3 (nI 31 - 10000)) 3 7 (nI 2), ?_, (c3.refl.up (by omega)).up (by omega), Or.inr ⟨rfl, hn, by unfold ne; rw [if_pos (Or.inr e2)]; exact up_s, by rw [up_m (by omega), up_m (by omega)]; exact h.2.1⟩⟩
      have hneg : nI 31 - 10000 < nI x := by
        rw [Int32.lt_iff_toInt_lt, nI_toInt (by omega), show (nI 31 - 10000).toInt = -9969 by decide]
        omega
      rw [q1_of an, if_pos (by decide), h.2.2, e2, y_lt, show sd_up C 3 3 (nI 31 - 10000) 3 3 = nI 31 - 10000 from up_s, if_pos hneg, q2_of (show F_Reader_fail 2 _ = _ from c_fail (e := 2)), nar0]
    · have an : F_Reader_atNumber C = some 0 := by
        unfold F_Reader_atNumber
        rw [h.2.2, if_neg (show ¬ (10000 : Int32) ≤ nI (kk b n k) from nI_ge (b := 10000) (by omega) (by omega)), if_pos (show ¬ nI (kk b n k) = 31 from fun z => e2 ((nI_eq (b := 31) (by omega) (by omega)).mp z))]
      exact ⟨0, _, by rw [q1_of an, if_neg (sn_nn rfl), q2_of (show F_Reader_fail 1 _ = _ from c_fail (e := 1)), nar0], c3.refl.up (by omega), Or.inr ⟨rfl, hn, by unfold ne; rw [if_neg (by omega)]; exact up_s, by rw [up_m (by omega)]; exact h.2.1⟩⟩
theorem m_numr (h : mk b n k M J) (hx : x < 100) (hy : y < 100) : ∃ v M' J', F_Mo_number (nI x) (nI y) M J = some (v, M', J') ∧ m3 M M' ∧ jsm J J' ∧ ((∃ z, nm (kk b n k) x y = some z ∧ v = nI z ∧ mk b n (k + 1) M' J') ∨ (nm (kk b n k) x y = none ∧ mbad b n (ne (kk b n k)) k M')) := by
  have hlt := h.1.lt
  have ht := h.1
  have hs := so_lt (q := kk b n k)
  unfold F_Mo_number F_Mo_number_25 F_Mo_number_28
  rw [q1_of h.good, if_pos (by decide), ht.so]
  have bad : ∀ e, 0 < e → e < 10 → nm (kk b n k) x y = none → ne (kk b n k) = e → ∃ v M' J', (sd_q1 (F_Mo_wrong (nI e) M) fun I1 => sd_lt (I1 61 24) fun a1 => sd_q1 (F_Mo_isGood I1) fun r2 => if r2 = 0 then some (a1, I1, J) else sd_q2 (F_Mo_goes I1 J) fun I3 J4 => some (a1, I3, J4)) = some (v, M', J') ∧ m3 M M' ∧ jsm J J' ∧ ((∃ z, nm (kk b n k) x y = some z ∧ v = nI z ∧ mk b n (k + 1) M' J') ∨ (nm (kk b n k) x y = none ∧ mbad b n (ne (kk b n k)) k M')) := by
    intro e h0 h1 h2 h3
    obtain ⟨M1, w1, w2, w3⟩ := mk_wrong h ⟨h0, h1⟩
    exact ⟨_, M1, J, by rw [q1_of w1, y_lt, q1_of w2.bad, if_pos rfl], w3, jsm.refl, Or.inr ⟨h2, by rw [h3]; exact w2⟩⟩
  by_cases e1 : 10000 ≤ kk b n k
  · have hso : so (kk b n k) = 2 := by unfold so; rw [if_neg (by omega), if_neg (by omega), if_neg (by omega), if_neg (by omega), if_neg (by omega)]
    obtain ⟨⟨l, l1, l2⟩, l3⟩ := ht.2.2.2.2.2.1 e1
    have hne : ne (kk b n k) = 2 := by unfold ne; rw [if_pos (Or.inl e1)]
    rw [hso, if_pos (show nI 2 = 2 from rfl), l2, if_neg (show ¬ (4 : Int32) < nI l from nI_nlt (a := 4) l1 (by omega)), l3]
    by_cases e2 : kk b n k - 10000 < x
    · rw [if_pos (nI_lt e2 (by omega))]
      exact bad 2 (by omega) (by omega) (by unfold nm; rw [if_neg (by omega)]) hne
    · rw [if_neg (nI_nlt (by omega) (by omega))]
      by_cases e3 : kk b n k - 10000 ≤ y
      · rw [if_pos (nI_le e3 (by omega))]
        obtain ⟨M1, J1, g1, g2, g3, g4⟩ := mk_goes h
        exact ⟨_, M1, J1, by rw [y_lt, q1_of h.good, if_neg (by decide), q2_of g1], g3.m3, g4, Or.inl ⟨_, by unfold nm; rw [if_pos (by omega)], rfl, g2⟩⟩
      · rw [if_neg (nI_ge (by omega) (by omega))]
        exact bad 2 (by omega) (by omega) (by unfold nm; rw [if_neg (by omega)]) hne
  · have hn : nm (kk b n k) x y = none := by unfold nm; rw [if_neg (by omega)]
    by_cases e2 : kk b n k = 31
    · have hso : so (kk b n k) = 2 := by rw [e2]; rfl
      obtain ⟨l, l1, l2, l3⟩ := ht.2.2.2.2.1 e2
      rw [hso, if_pos (show nI 2 = 2 from rfl), l3, if_pos (show (4 : Int32) < nI l from nI_lt (a := 4) l1 (by omega))]
      exact bad 2 (by omega) (by omega) hn (by unfold ne; rw [if_pos (Or.inr e2)])
    · have n1 : so (kk b n k) ≠ 2 := by unfold so; rw [if_neg e2]; repeat (first | omega | split)
      rw [if_neg (show ¬ nI (so (kk b n k)) = 2 from fun z => n1 ((nI_eq (b := 2) (by omega) (by omega)).mp z))]
      exact bad 1 (by omega) (by omega) hn (by unfold ne; rw [if_neg (by omega)])
theorem m_num0 {e : Nat} {u v : Int32} (h : mbad b n e k M) : F_Mo_number u v M J = some (0, M, J) := by
  unfold F_Mo_number
  rw [q1_of h.bad, if_neg (sn_nn rfl)]
end LN
