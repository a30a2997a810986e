/-! ===== all anew, and the reader's loop ===== -/
def A0 : sA := fun x y => if x = 0 ∧ y = 2 then 4 else 0
def R0 : Nat → List Nat := fun _ => []
theorem wA_0 : wA A0 := ⟨by decide, by decide, by decide, by decide, fun s hs => absurd hs (by show ¬ s < 0; omega), fun r _ => ⟨by show 0 ≤ 4; omega, fun _ => rfl, fun z => absurd z (by show ¬ 0 < 0; omega), fun i hi => absurd hi (by show ¬ i < 0; omega)⟩⟩
theorem rW_0 : rW R0 := fun _ _ z => absurd rfl z
section RE
variable {b : Nat → Nat} {n d : Nat} {C M : sm_MI} {J : sm_MJ}
theorem c_clearR {p : Nat} : ∃ C', F_Rules_clear p C = some C' ∧ C' p 1 = 0 ∧ (∀ j, j ≠ 1 → C' p j = C p j) ∧ (∀ k, k < 4 → C' (p + 2) k = 0 ∧ C' (p + 3) k = 0) ∧ ∀ j, j ≠ p → j ≠ p + 2 → j ≠ p + 3 → C' j = C j := by
  unfold F_Rules_clear
  rw [y_lt]
  refine lp_R (fun f j C => F_Rules_clear_5 p f j C) (fun r C' => C' p 1 = 0 ∧ (∀ j, j ≠ 1 → C' p j = C p j) ∧ (∀ k, k < r → C' (p + 2) k = 0 ∧ C' (p + 3) k = 0) ∧ ∀ j, j ≠ p → j ≠ p + 2 → j ≠ p + 3 → C' j = C j) _ 4 _ ⟨up_s, fun j hj => up_m hj, fun k hk => absurd hk (by omega), fun j h1 _ _ => up_n h1⟩ (by omega) ?_ ?_
  · intro f C' h
    refine ⟨C', ?_, h⟩
    show F_Rules_clear_5B p (F_Rules_clear_5 p f) (nI 4) C' = _
    unfold F_Rules_clear_5B
    rw [if_pos (show (4 : Int32) ≤ nI 4 by decide)]
  · rintro f r C' hr ⟨g1, g2, g3, g4⟩
    refine Or.inl ⟨sd_up (sd_up C' (p + 2) r 0) (p + 3) r 0, ⟨?_, fun j hj => ?_, fun k hk => ⟨?_, ?_⟩, fun j h1 h2 h3 => ?_⟩, ?_⟩
    · rw [up_n (by omega), up_n (by omega)]; exact g1
    · rw [up_n (by omega), up_n (by omega)]; exact g2 j hj
    · rw [up_n (by omega)]
      by_cases z : k = r
      · subst z; exact up_s
      · rw [up_m z]; exact (g3 k (by omega)).1
    · by_cases z : k = r
      · subst z; exact up_s
      · rw [up_m z, up_n (by omega)]; exact (g3 k (by omega)).2
    · rw [up_n h3, up_n h2]; exact g4 j h1 h2 h3
    · show F_Rules_clear_5B p (F_Rules_clear_5 p f) (nI r) C' = _
      unfold F_Rules_clear_5B
      rw [if_neg (show ¬ (4 : Int32) ≤ nI r from nI_ge (b := 4) hr (by omega)), sn_gu (sn_in' hr (by omega)), nI_clamp (by omega), y_lt, sn_gu (sn_in' hr (by omega)), y_lt, nI_1]
theorem c_clear (h4 : C 3 4 = 0) (hd : 3 < d) : ∃ C', F_Valley_clear d C = some C' ∧ cdf A0 false d C' ∧ crl R0 0 (d + 14) C' ∧ ∀ j, (j < d ∨ d + 20 ≤ j) → C' j = C j := by
  unfold F_Valley_clear
  rw [y_lt, y_lt, y_lt]
  refine lp_R (fun f j C => F_Valley_clear_11 d f j C) (fun r C' => (C' d 0 = 0 ∧ C' d 1 = 0 ∧ C' d 2 = 4) ∧ (∀ x, x < r → C' (d + 6) x = 0 ∧ C' (d + 7) x = 0 ∧ C' (d + 11) x = 0) ∧ ∀ j, (j < d ∨ d + 20 ≤ j) → C' j = C j) _ 20 _ ⟨⟨by rw [up_m (by omega), up_m (by omega)]; exact up_s, by rw [up_m (by omega)]; exact up_s, up_s⟩, fun x hx => absurd hx (by omega), fun j hj => by rw [up_n (by omega), up_n (by omega), up_n (by omega)]⟩ (by omega) ?_ ?_
  · rintro f C' ⟨⟨g1, g2, g3⟩, g4, g5⟩
    obtain ⟨C2, e1, e2, e3, e4, e5⟩ := c_clearR (p := d + 14) (C := C')
    refine ⟨C2, ?_, ⟨⟨?_, ?_, ?_⟩, fun s hs => absurd hs (by show ¬ s < 0; omega), fun r hr => ?_, ?_⟩, ⟨⟨e2, by omega⟩, fun ρ hρ => ⟨0, (e4 ρ hρ).1, (e4 ρ hρ).2, Nat.le_refl _, fun i s hs => by cases hs⟩⟩, fun j hj => by rw [e5 j (by omega) (by omega) (by omega)]; exact g5 j hj⟩
    · show F_Valley_clear_11B d (F_Valley_clear_11 d f) (nI 20) C' = _
      unfold F_Valley_clear_11B
      rw [if_pos (show (20 : Int32) ≤ nI 20 by decide), q1_of e1]
    · rw [e5 d (by omega) (by omega) (by omega)]; exact g1
    · rw [e5 d (by omega) (by omega) (by omega)]; exact g2
    · rw [e5 d (by omega) (by omega) (by omega)]; exact g3
    · rw [e5 (d + 6) (by omega) (by omega) (by omega), e5 (d + 7) (by omega) (by omega) (by omega), e5 (d + 11) (by omega) (by omega) (by omega)]
      exact ⟨(g4 r hr).1, (g4 r hr).2.1, (g4 r hr).2.2, fun i hi => absurd hi (by show ¬ i < 0; omega)⟩
    · rw [e5 3 (by omega) (by omega) (by omega), g5 3 (by omega)]; exact h4
  · rintro f r C' hr ⟨⟨g1, g2, g3⟩, g4, g5⟩
    refine Or.inl ⟨sd_up (sd_up (sd_up C' (d + 6) r 0) (d + 7) r 0) (d + 11) r 0, ⟨⟨?_, ?_, ?_⟩, fun x hx => ⟨?_, ?_, ?_⟩, fun j hj => ?_⟩, ?_⟩
    · rw [up_n (by omega), up_n (by omega), up_n (by omega)]; exact g1
    · rw [up_n (by omega), up_n (by omega), up_n (by omega)]; exact g2
    · rw [up_n (by omega), up_n (by omega), up_n (by omega)]; exact g3
    · rw [up_n (by omega), up_n (by omega)]
      by_cases z : x = r
      · subst z; exact up_s
      · rw [up_m z]; exact (g4 x (by omega)).1
    · rw [up_n (by omega)]
      by_cases z : x = r
      · subst z; exact up_s
      · rw [up_m z, up_n (by omega)]; exact (g4 x (by omega)).2.1
    · by_cases z : x = r
      · subst z; exact up_s
      · rw [up_m z, up_n (by omega), up_n (by omega)]; exact (g4 x (by omega)).2.2
    · rw [up_n (by omega), up_n (by omega), up_n (by omega)]; exact g5 j hj
    · show F_Valley_clear_11B d (F_Valley_clear_11 d f) (nI r) C' = _
      unfold F_Valley_clear_11B
      rw [if_neg (show ¬ (20 : Int32) ≤ nI r from nI_ge (b := 20) hr (by omega)), sn_gu (sn_in' hr (by omega)), nI_clamp (by omega), y_lt, sn_gu (sn_in' hr (by omega)), y_lt, sn_gu (sn_in' hr (by omega)), y_lt, nI_1]
theorem so_33 {κ : Nat} (h : so κ = 0) : κ = 33 := by
  unfold so at h
  repeat (first | omega | split at h)
theorem l_read : ∀ m k i C M J f1 f2 A R ev u a, n ≤ k + m → i ≤ k → m < f1 → m < f2 → ls b n k A R ev u a d C M J →
    ∃ r C' M' J', F_Reader_read_23 d f1 (nI i) C = some (r, C') ∧ F_Mo_valley_71 f2 M J = F_Mo_valley_80 M' J' ∧ (fC d C C' ∧ fM M M' ∧ jsm J J') ∧
      ((r = 0 ∧ ∃ k' A R ev u a C1, ls b n k' A R ev u a d C1 M' J' ∧ cA A d C' ∧ ∀ j, (j < d + 9 ∨ d + 13 < j) → C' j = C1 j) ∨ ∃ e k', r = nI e ∧ k' ≤ 701 ∧ cbad e k' C' ∧ mbad b n e k' M') := by
  intro m
  induction m with
  | zero =>
    intro k i C M J f1 f2 A R ev u a hn hi hf1 hf2 h
    obtain ⟨f1, rfl⟩ : ∃ g, f1 = g + 1 := ⟨f1 - 1, by omega⟩
    obtain ⟨f2, rfl⟩ : ∃ g, f2 = g + 1 := ⟨f2 - 1, by omega⟩
    have h33 : kk b n k = 33 := Classical.byContradiction fun z => by have := kk_n z; omega
    obtain ⟨C', s1, s2, s3⟩ := c_settle h.2.1.1 h.2.2.1.1
    refine ⟨0, C', M, J, ?_, ?_, ⟨fun j h1 h2 => s3 j (by omega), fM.refl, jsm.refl⟩, Or.inl ⟨rfl, k, A, R, ev, u, a, C, h, s2, s3⟩⟩
    · show F_Reader_read_23B d (F_Reader_read_23 d f1) (nI i) C = _
      unfold F_Reader_read_23B F_Reader_read_39
      rw [(ls_ck h).2.2, h33, if_pos (show nI 33 = 33 from rfl), ite_self, q1_of s1]
    · show F_Mo_valley_71B (F_Mo_valley_71 f2) M J = _
      unfold F_Mo_valley_71B
      rw [q1_of (ls_mk h).good, if_neg (show ¬ (1 : Int32) = 0 by decide), (ls_mk h).1.so, h33, if_pos (show nI (so 33) = 0 from rfl)]
  | succ m ih =>
    intro k i C M J f1 f2 A R ev u a hn hi hf1 hf2 h
    obtain ⟨f1, rfl⟩ : ∃ g, f1 = g + 1 := ⟨f1 - 1, by omega⟩
    obtain ⟨f2, rfl⟩ : ∃ g, f2 = g + 1 := ⟨f2 - 1, by omega⟩
    have e1 : F_Reader_read_23 d (f1 + 1) (nI i) C = F_Reader_read_23B d (F_Reader_read_23 d f1) (nI i) C := rfl
    have e2 : F_Mo_valley_71 (f2 + 1) M J = F_Mo_valley_71B (F_Mo_valley_71 f2) M J := rfl
    rw [e1, e2]
    unfold F_Reader_read_23B F_Reader_read_39 F_Mo_valley_71B
    rw [(ls_ck h).2.2, q1_of (ls_mk h).good, if_neg (show ¬ (1 : Int32) = 0 by decide), (ls_mk h).1.so]
    have hlt := (ls_ck h).lt
    by_cases h33 : kk b n k = 33
    · obtain ⟨C', s1, s2, s3⟩ := c_settle h.2.1.1 h.2.2.1.1
      refine ⟨0, C', M, J, ?_, ?_, ⟨fun j h1 h2 => s3 j (by omega), fM.refl, jsm.refl⟩, Or.inl ⟨rfl, k, A, R, ev, u, a, C, h, s2, s3⟩⟩
      · rw [h33, if_pos (show nI 33 = 33 from rfl), ite_self, q1_of s1]
      · rw [h33, if_pos (show nI (so 33) = 0 from rfl)]
    · have hkn := kk_n h33
      have hn7 := (ls_mk h).1.1.1
      obtain ⟨r, C1, M1, J1, l1, l2, ⟨l3, l4, l5⟩, l6⟩ := l_line h h33
      rw [if_neg (show ¬ (700 : Int32) ≤ nI i from nI_ge (b := 700) (by omega) (by omega)), if_neg (show ¬ nI (kk b n k) = 33 from fun z => h33 ((nI_eq (b := 33) (by omega) (by omega)).mp z)), if_neg (show ¬ nI (so (kk b n k)) = 0 from fun z => h33 (so_33 ((nI_eq (b := 0) (by have := so_lt (q := kk b n k); omega) (by omega)).mp z))), q2_of l1, q2_of l2]
      rcases l6 with ⟨rfl, k', A', R', ev', u', a', y1, y2⟩ | ⟨rfl, e, k', y1, y2, y3⟩
      · obtain ⟨r, C', M', J', g1, g2, ⟨g3, g4, g5⟩, g6⟩ := ih k' (i + 1) C1 M1 J1 f1 f2 A' R' ev' u' a' (by omega) (by omega) (by omega) (by omega) y2
        refine ⟨r, C', M', J', ?_, g2, ⟨l3.trans g3, l4.trans g4, l5.trans g5⟩, g6⟩
        rw [if_pos (show ¬ (1 : Int32) = 0 by decide), show nI i + 1 = nI (i + 1) from nI_add i 1]
        exact g1
      · obtain ⟨f2, rfl⟩ : ∃ g, f2 = g + 1 := ⟨f2 - 1, by omega⟩
        refine ⟨nI e, C1, M1, J1, ?_, ?_, ⟨l3, l4, l5⟩, Or.inr ⟨e, k', rfl, y1, y2, y3⟩⟩
        · rw [if_neg (sn_nn rfl), y2.1]
        · show F_Mo_valley_71B (F_Mo_valley_71 f2) M1 J1 = _
          unfold F_Mo_valley_71B
          rw [q1_of y3.bad, if_pos rfl]
/-- the reader of the class, up to its loop -/
theorem c_read0 (hd : d = 21 ∨ d = 41) (hn : n ≤ 700) (hb : ∀ j, j < n → b j < 256 ∧ C 5 j = nI (b j)) : ∃ C', F_Reader_read d (nI n) C = F_Reader_read_23 d sd_fu (nI 0) C' ∧ ck b n 0 C' ∧ cdf A0 false d C' ∧ crl R0 0 (d + 14) C' ∧ (∀ j, (j < d ∨ d + 20 ≤ j) → j ≠ 3 → j ≠ 4 → j ≠ 6 → j ≠ 7 → C' j = C j) ∧ ∀ i, i ≠ 4 → i ≠ 5 → C' 4 i = C 4 i := by
  obtain ⟨C1, s1, s2, s3, s4⟩ := c_scan (C := C) (f := 700) hn hn hb
  have t1 : tks b n (sd_up C1 3 1 0) := tks_of s2 (up_n (by omega)) (up_n (by omega)) (up_n (by omega)) (up_n (by omega))
  have k1 := tks_k (k := 0) t1 (by omega)
  obtain ⟨C2, c1, c2, c3', c4⟩ := c_clear (C := sd_up (sd_up (sd_up (sd_up C1 3 1 0) 3 2 (nI (kk b n 0))) 3 4 0) 3 7 0) (d := d) (by rw [up_m (by omega)]; exact up_s) (by omega)
  have e3 : ∀ j, C2 3 j = sd_up (sd_up (sd_up (sd_up C1 3 1 0) 3 2 (nI (kk b n 0))) 3 4 0) 3 7 0 3 j := fun j => by rw [c4 3 (by omega)]
  have ej : ∀ j, (j < d ∨ d + 20 ≤ j) → j ≠ 3 → C2 j = C1 j := fun j h1 h2 => by rw [c4 j h1, up_n h2, up_n h2, up_n h2, up_n h2]
  refine ⟨C2, ?_, ⟨tks_of s2 (ej 4 (by omega) (by omega)) (ej 5 (by omega) (by omega)) (ej 6 (by omega) (by omega)) (ej 7 (by omega) (by omega)), ?_, ?_⟩, c2, c3', fun j h1 h2 h3 h4 h5 => by rw [ej j h1 h2]; exact s3 j h3 h4 h5, fun i h1 h2 => by rw [ej 4 (by omega) (by omega)]; exact s4 i h1 h2⟩
  · unfold F_Reader_read
    rw [q1_of s1, y_lt, q1_of (show F_Tape_kindOf 0 _ = _ from k1), y_lt, y_lt, y_lt, q1_of c1]
    rfl
  · rw [e3, up_m (by omega), up_m (by omega), up_m (by omega), up_s]; rfl
  · rw [e3, up_m (by omega), up_m (by omega), up_s]
/-- the model, up to its loop -/
theorem m_read0 (hn : n ≤ 700) (h0 : M 61 0 = 0) (hb : ∀ j, j < n → b j < 256 ∧ M 72 j = nI (b j)) : ∃ M' J', F_Mo_valley_13 (nI n) 1 M J = F_Mo_valley_71 sd_fu M' J' ∧ mk b n 0 M' J' ∧ mdf A0 false M' ∧ mrl R0 0 M' ∧ M' 61 15 = 0 ∧ jsm J J' ∧ (∀ k, k ≠ 61 → k ≠ 79 → k ≠ 82 → M' k = M k) ∧ ∀ j, (j < 15 ∨ j = 18 ∨ 34 < j) → M' 61 j = M 61 j := by
  have e13 : F_Mo_valley_13 (nI n) 1 M J = F_Mo_valley_47 sd_fu 0 (sd_up (sd_up (sd_up (sd_up (sd_up (sd_up (sd_up (sd_up (sd_up M 61 15 0) 61 17 (-1)) 61 16 0) 61 19 (nI n)) 61 20 0) 61 27 0) 61 28 0) 61 29 (-1)) 61 30 0) J := by
    unfold F_Mo_valley_13
    rw [q2_of (m_rt1 h0 n10), if_pos (show ¬ (1 : Int32) = 0 by decide), y_lt, y_lt, y_lt, y_lt, y_lt, y_lt, y_lt, y_lt, y_lt]
  generalize hM1 : sd_up (sd_up (sd_up (sd_up (sd_up (sd_up (sd_up (sd_up (sd_up M 61 15 0) 61 17 (-1)) 61 16 0) 61 19 (nI n)) 61 20 0) 61 27 0) 61 28 0) 61 29 (-1)) 61 30 0 = M1 at e13
  have i15 : M1 61 15 = 0 := by rw [← hM1, up_m (by omega), up_m (by omega), up_m (by omega), up_m (by omega), up_m (by omega), up_m (by omega), up_m (by omega), up_m (by omega), up_s]
  have i17 : M1 61 17 = -1 := by rw [← hM1, up_m (by omega), up_m (by omega), up_m (by omega), up_m (by omega), up_m (by omega), up_m (by omega), up_m (by omega), up_s]
  have i16 : M1 61 16 = 0 := by rw [← hM1, up_m (by omega), up_m (by omega), up_m (by omega), up_m (by omega), up_m (by omega), up_m (by omega), up_s]
  have i19 : M1 61 19 = nI n := by rw [← hM1, up_m (by omega), up_m (by omega), up_m (by omega), up_m (by omega), up_m (by omega), up_s]
  have i20 : M1 61 20 = 0 := by rw [← hM1, up_m (by omega), up_m (by omega), up_m (by omega), up_m (by omega), up_s]
  have i27 : M1 61 27 = 0 := by rw [← hM1, up_m (by omega), up_m (by omega), up_m (by omega), up_s]
  have i28 : M1 61 28 = 0 := by rw [← hM1, up_m (by omega), up_m (by omega), up_s]
  have i29 : M1 61 29 = -1 := by rw [← hM1, up_m (by omega), up_s]
  have i30 : M1 61 30 = 0 := by rw [← hM1, up_s]
  have io : ∀ j, (j < 15 ∨ j = 18 ∨ 34 < j) → M1 61 j = M 61 j := fun j hj => by rw [← hM1, up_m (by omega), up_m (by omega), up_m (by omega), up_m (by omega), up_m (by omega), up_m (by omega), up_m (by omega), up_m (by omega), up_m (by omega)]
  have ik : ∀ k, k ≠ 61 → M1 k = M k := fun k hk => by rw [← hM1, up_n hk, up_n hk, up_n hk, up_n hk, up_n hk, up_n hk, up_n hk, up_n hk, up_n hk]
  clear hM1
  obtain ⟨a1, a2⟩ := lp_in (fun f j M => F_Mo_valley_47 f j M J) (fun M => F_Mo_valley_59 sd_fu 0 M J) (fun j M => sd_up M 79 j 0) (fun r M' => (∀ k, k < r → M' 79 k = 0) ∧ ∀ k, k ≠ 79 → M' k = M1 k) 20 M1 ⟨fun k hk => absurd hk (by omega), fun _ _ => rfl⟩ (by omega)
    (fun f M' _ => by
      show F_Mo_valley_47B (F_Mo_valley_47 f) (nI 20) M' J = _
      unfold F_Mo_valley_47B
      rw [if_pos (show (20 : Int32) ≤ nI 20 by decide)])
    (fun f r M' hr h => ⟨⟨fun k hk => by
        by_cases z : k = r
        · subst z; exact up_s
        · rw [up_m z]; exact h.1 k (by omega), fun k hk => by rw [up_n hk]; exact h.2 k hk⟩, by
      show F_Mo_valley_47B (F_Mo_valley_47 f) (nI r) M' J = _
      unfold F_Mo_valley_47B
      rw [if_neg (show ¬ (20 : Int32) ≤ nI r from nI_ge (b := 20) hr (by omega)), sn_gu (sn_in' hr (by omega)), nI_clamp (by omega), y_lt, nI_1]⟩)
  generalize itr (fun j M => sd_up M 79 j 0) 20 M1 = M2 at a1 a2
  obtain ⟨b1, b2⟩ := lp_in (fun f j M => F_Mo_valley_59 f j M J) (fun M => sd_q2 (F_Mo_goes M J) fun I1 J2 => F_Mo_valley_71 sd_fu I1 J2) (fun j M => sd_up M 82 j (-1)) (fun r M' => (∀ k, k < r → M' 82 k = -1) ∧ ∀ k, k ≠ 82 → M' k = M2 k) 4 M2 ⟨fun k hk => absurd hk (by omega), fun _ _ => rfl⟩ (by omega)
    (fun f M' _ => by
      show F_Mo_valley_59B (F_Mo_valley_59 f) (nI 4) M' J = _
      unfold F_Mo_valley_59B
      rw [if_pos (show (4 : Int32) ≤ nI 4 by decide)])
    (fun f r M' hr h => ⟨⟨fun k hk => by
        by_cases z : k = r
        · subst z; exact up_s
        · rw [up_m z]; exact h.1 k (by omega), fun k hk => by rw [up_n hk]; exact h.2 k hk⟩, by
      show F_Mo_valley_59B (F_Mo_valley_59 f) (nI r) M' J = _
      unfold F_Mo_valley_59B
      rw [if_neg (show ¬ (4 : Int32) ≤ nI r from nI_ge (b := 4) hr (by omega)), sn_gu (sn_in' hr (by omega)), nI_clamp (by omega), y_lt, nI_1]⟩)
  generalize itr (fun j M => sd_up M 82 j (-1)) 4 M2 = M3 at b1 b2
  have e3 : ∀ j, M3 61 j = M1 61 j := fun j => by rw [b2.2 61 (by omega), a2.2 61 (by omega)]
  have hmt : mtb b n M3 := ⟨hn, by rw [e3]; exact i19, fun j hj => ⟨(hb j hj).1, by rw [b2.2 72 (by omega), a2.2 72 (by omega), ik 72 (by omega)]; exact (hb j hj).2⟩⟩
  obtain ⟨M4, J4, g1, g2, g3, g4⟩ := m_first (J := J) hmt (by rw [e3]; exact i20)
  have e4 : ∀ j, (j < 20 ∨ 25 < j) → M4 61 j = M1 61 j := fun j hj => by rw [g3.2 j hj, e3]
  refine ⟨M4, J4, ?_, ⟨g2, ?_, ?_⟩, ⟨⟨?_, ?_, ?_⟩, fun s hs => absurd hs (by show ¬ s < 0; omega), fun r hr => ⟨?_, fun z => absurd z (by show ¬ 0 < 0; omega)⟩⟩, ⟨?_, fun ρ hρ => ⟨fun _ => ?_, fun z => absurd rfl z⟩⟩, ?_, g4, fun k h1 h2 h3 => ?_, fun j hj => ?_⟩
  · rw [e13]
    show F_Mo_valley_47 sd_fu (nI 0) M1 J = _
    rw [a1]
    show F_Mo_valley_59 sd_fu (nI 0) M2 J = _
    rw [b1, q2_of g1]
  · rw [e4 16 (by omega)]; exact i16
  · rw [e4 17 (by omega)]; exact i17
  · rw [e4 27 (by omega)]; exact i27
  · rw [e4 28 (by omega)]; exact i28
  · rw [e4 29 (by omega)]; exact i29
  · rw [g3.1 79 (by omega), b2.2 79 (by omega)]; exact a2.1 r hr
  · rw [e4 30 (by omega)]; exact i30
  · rw [g3.1 82 (by omega)]; exact b2.1 ρ hρ
  · rw [e4 15 (by omega)]; exact i15
  · rw [g3.1 k h1, b2.2 k h3, a2.2 k h2]; exact ik k h1
  · rw [e4 j (by omega)]; exact io j hj
theorem ls_0 (hd : d = 21 ∨ d = 41) (h1 : ck b n 0 C) (h2 : cdf A0 false d C) (h3 : crl R0 0 (d + 14) C) (g1 : mk b n 0 M J) (g2 : mdf A0 false M) (g3 : mrl R0 0 M) : ls b n 0 A0 R0 false 0 0 d C M J :=
  ⟨⟨h1, g1⟩, ⟨wA_0, fun _ => rfl, rW_0⟩, ⟨h2, g2⟩, ⟨h3, g3⟩, ⟨Nat.le_refl _, Nat.zero_le _, by omega⟩, hd⟩
end RE
