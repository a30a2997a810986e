/-! ===== the model at a token ===== -/
section GO
variable {b : Nat → Nat} {n : Nat} {M M' M2 : sm_MI} {J J' J2 : sm_MJ}
theorem m_skp : ∀ d e M f, e + d = n → d < f → mtb b n M → M 61 20 = nI e → ∃ M', F_Mo_goes_0 f M J = F_Mo_goes_24 M' J ∧ M' 61 20 = nI (skp b n e) ∧ ksm M M' := by
  intro d
  induction d with
  | zero =>
    intro e M f he hf hb h20
    obtain ⟨f, rfl⟩ : ∃ g, f = g + 1 := ⟨f - 1, by omega⟩
    obtain rfl : e = n := by omega
    have h1 := hb.1
    refine ⟨M, ?_, ?_, ksm.refl⟩
    · have hu : F_Mo_goes_0 (f + 1) M J = F_Mo_goes_0B (F_Mo_goes_0 f) M J := rfl
      rw [hu]
      unfold F_Mo_goes_0B
      rw [h20, hb.2.1, if_pos (nI_le (Nat.le_refl _) (by omega))]
    · rw [h20]
      have := skp_le (b := b) (Nat.le_refl e)
      rw [show skp b e e = e by omega]
  | succ d ih =>
    intro e M f he hf hb h20
    obtain ⟨f, rfl⟩ : ∃ g, f = g + 1 := ⟨f - 1, by omega⟩
    have h1 := hb.1
    have hbj := (hb.2.2 e (by omega)).1
    have hu : F_Mo_goes_0 (f + 1) M J = F_Mo_goes_0B (F_Mo_goes_0 f) M J := rfl
    have hq : n - e = d + 1 := by omega
    rw [hu]
    unfold F_Mo_goes_0B
    rw [h20, hb.2.1, if_neg (nI_ge (show e < n by omega) (by omega)), q1_of (m_byte hb (show e < n by omega))]
    cases g : blk (b e)
    · have hn2 : ¬ b e = 32 ∧ ¬ b e = 10 := by unfold blk at g; simp at g; exact g
      have n1 : ¬ nI (b e) = 32 := fun z => hn2.1 ((nI_eq (b := 32) (by omega) (by omega)).mp z)
      have n2 : ¬ nI (b e) = 10 := fun z => hn2.2 ((nI_eq (b := 10) (by omega) (by omega)).mp z)
      refine ⟨M, ?_, ?_, ksm.refl⟩
      · rw [if_neg n1, q1_of (m_byte hb (show e < n by omega)), if_pos n2]
      · rw [h20]; unfold skp; rw [hq]; unfold rn; rw [g, if_neg (by decide)]
    · have hn2 : b e = 32 ∨ b e = 10 := by unfold blk at g; simpa using g
      obtain ⟨M', k1, k2, k3⟩ := ih (e + 1) (sd_up M 61 20 (nI (e + 1))) f (by omega) (by omega) (hb.of (ksm.refl.up (by omega))) up_s
      refine ⟨M', ?_, ?_, (ksm.refl.up (by omega)).trans k3⟩
      · have k : F_Mo_goes_17 (F_Mo_goes_0 f) M J = F_Mo_goes_24 M' J := by
          unfold F_Mo_goes_17
          rw [h20, y_lt, show nI e + 1 = nI (e + 1) from nI_add e 1]
          exact k1
        rcases hn2 with h5 | h5
        · rw [h5, if_pos (show nI 32 = 32 from rfl)]; exact k
        · rw [h5, if_neg (show ¬ nI 10 = 32 by decide), q1_of (m_byte hb (show e < n by omega)), h5, if_neg (sn_nn (show nI 10 = 10 from rfl))]; exact k
      · rw [k2]; unfold skp; rw [hq, show n - (e + 1) = d by omega]; conv => rhs; unfold rn
        rw [g, if_pos rfl]
theorem kw_no {s q : Nat} (h : M 61 21 = nI s) (hs : s ≠ 1) (hs2 : s < 10) (hq : 24 ≤ q) : F_Mo_knownWord M J = some (mkw q) := by
  unfold F_Mo_knownWord
  rw [h, if_pos (show ¬ nI s = 1 from fun z => hs ((nI_eq (b := 1) (by omega) (by omega)).mp z)), mkw_no hq]
theorem nx_ok {k : Nat} (h : tp b n k < n) : skp b n (te b n (tp b n k)) = tp b n (k + 1) := by
  show _ = (if tp b n k < n then _ else _)
  rw [if_pos h]
theorem m_at {k : Nat} (hb : mtb b n M) (h20 : M 61 20 = nI (tp b n k)) : ∃ M' J', F_Mo_goes_24 M J = some (M', J') ∧ tok b n k M' J' ∧ ksm M M' ∧ jsm J J' := by
  have h1 := hb.1
  have hle := tp_le (b := b) (n := n) k
  unfold F_Mo_goes_24
  by_cases hn : tp b n k < n
  · have hkk : kk b n k = kd b n (tp b n k) := if_pos hn
    have hnx := nx_ok hn
    have htl := te_le (b := b) hn
    generalize hp : tp b n k = p at h20 hle hn hkk hnx htl
    have hbj := (hb.2.2 p hn).1
    have h22 : sd_up M 61 22 (nI p) 61 20 = nI p := by rw [up_m (by omega)]; exact h20
    have hb3 : mtb b n (sd_up (sd_up M 61 22 (nI p)) 61 24 0) := hb.of ((ksm.refl.up (by omega)).up (by omega))
    have hb5 : mtb b n (sd_up (sd_up (sd_up M 61 22 (nI p)) 61 24 0) 61 25 (nI (b p))) := hb.of (((ksm.refl.up (by omega)).up (by omega)).up (by omega))
    have e20 : sd_up (sd_up M 61 22 (nI p)) 61 24 0 61 20 = nI p := by rw [up_m (by omega)]; exact h22
    have e520 : sd_up (sd_up (sd_up M 61 22 (nI p)) 61 24 0) 61 25 (nI (b p)) 61 20 = nI p := by rw [up_m (by omega)]; exact e20
    have e522 : sd_up (sd_up (sd_up M 61 22 (nI p)) 61 24 0) 61 25 (nI (b p)) 61 22 = nI p := by rw [up_m (by omega), up_m (by omega)]; exact up_s
    have e525 : sd_up (sd_up (sd_up M 61 22 (nI p)) 61 24 0) 61 25 (nI (b p)) 61 25 = nI (b p) := up_s
    have e524 : sd_up (sd_up (sd_up M 61 22 (nI p)) 61 24 0) 61 25 (nI (b p)) 61 24 = 0 := by rw [up_m (by omega)]; exact up_s
    have s5 : ksm M (sd_up (sd_up (sd_up M 61 22 (nI p)) 61 24 0) 61 25 (nI (b p))) := ((ksm.refl.up (by omega)).up (by omega)).up (by omega)
    rw [h20, y_lt, y_lt, y_lt, e20, q1_of (m_byte hb3 hn), y_lt]
    generalize sd_up (sd_up (sd_up M 61 22 (nI p)) 61 24 0) 61 25 (nI (b p)) = M5 at hb5 e520 e522 e525 e524 s5
    rw [e520, hb5.2.1, if_pos (nI_lt hn (by omega))]
    have cl := m_letter hbj
    have cd := m_digit hbj
    cases el : ltr (b p)
    · rw [el] at cl
      have cl : F_Mo_isLetter (nI (b p)) = some 0 := cl
      rw [q1_of cl, if_pos rfl]
      cases ed : dgt (b p)
      · rw [ed] at cd
        have cd : F_Mo_isDigit (nI (b p)) = some 0 := cd
        have hte : te b n p = p + 1 := by unfold te; rw [el, ed]; rfl
        have hkd : kd b n p = if sgn (b p) then 1000 + b p else 32 := by unfold kd; rw [el, ed]; rfl
        have m20 : sd_up M5 61 20 (nI (p + 1)) 61 20 = nI (p + 1) := up_s
        have m22 : sd_up M5 61 20 (nI (p + 1)) 61 22 = nI p := by rw [up_m (by omega)]; exact e522
        have m25 : sd_up M5 61 20 (nI (p + 1)) 61 25 = nI (b p) := by rw [up_m (by omega)]; exact e525
        have s8 : ksm M (sd_up M5 61 20 (nI (p + 1))) := s5.up (by omega)
        rw [q1_of cd, if_pos rfl, y_lt, show nI p + 1 = nI (p + 1) from nI_add p 1]
        generalize sd_up M5 61 20 (nI (p + 1)) = M8 at m20 m22 m25 s8
        have fin : ∀ s : Nat, s = (if sgn (b p) then 3 else 4) → ∃ M' J', F_Mo_goes_170 (sd_up M8 61 21 (nI s)) (sd_upJ J 61 26 0) = some (M', J') ∧ tok b n k M' J' ∧ ksm M M' ∧ jsm J J' := by
          intro s hs
          have hs8 : ksm M (sd_up (sd_up M8 61 21 (nI s)) 61 23 (nI (p + 1 - p))) := (s8.up (by omega)).up (by omega)
          refine ⟨_, _, m_r170 (by rw [up_m (by omega)]; exact m20) (by rw [up_m (by omega)]; exact m22) (by omega), ⟨hb.of hs8, ⟨p + 1, by omega, ?_, by rw [← hte]; exact hnx⟩, ?_, ?_, ?_, ?_, ?_, ?_⟩, hs8, jsm.refl.up⟩
          · rw [up_m (by omega), up_m (by omega)]; exact m20
          · rw [hp, up_m (by omega), up_m (by omega)]; exact m22
          · rw [up_m (by omega), up_s, hkk, hkd, hs]
            split
            · unfold so; rw [if_neg (by omega), if_neg (by omega), if_neg (by omega), if_neg (by omega), if_pos (by omega)]
            · rfl
          · rw [hkk, hkd]; intro z; split at z <;> omega
          · rw [hkk, hkd]; intro z; split at z <;> omega
          · rw [hkk, hkd]
            intro z
            rw [up_m (by omega), up_m (by omega), m25]
            split
            · rw [Nat.add_sub_cancel_left]
            · rename_i g; rw [if_neg g] at z; exact absurd z (by decide)
          · refine kw_no (s := s) (by rw [up_m (by omega)]; exact up_s) (by rw [hs]; split <;> omega) (by rw [hs]; split <;> omega) ?_
            rw [hkk, hkd]; split <;> omega
        have n1 : ∀ z : Nat, z < 256 → (nI (b p) = nI z ↔ b p = z) := fun z hz => nI_eq (by omega) (by omega)
        have o59 : nI (b p) = 59 ↔ b p = 59 := n1 59 (by omega)
        have o40 : nI (b p) = 40 ↔ b p = 40 := n1 40 (by omega)
        have o41 : nI (b p) = 41 ↔ b p = 41 := n1 41 (by omega)
        have o43 : nI (b p) = 43 ↔ b p = 43 := n1 43 (by omega)
        have o45 : nI (b p) = 45 ↔ b p = 45 := n1 45 (by omega)
        have o42 : nI (b p) = 42 ↔ b p = 42 := n1 42 (by omega)
        have o47 : nI (b p) = 47 ↔ b p = 47 := n1 47 (by omega)
        have o60 : nI (b p) = 60 ↔ b p = 60 := n1 60 (by omega)
        have o61 : nI (b p) = 61 ↔ b p = 61 := n1 61 (by omega)
        simp only [y_lt, o59, o40, o41, o43, o45, o42, o47, o60, o61]
        have f3 : sgn (b p) = true → ∃ M' J', F_Mo_goes_170 (sd_up M8 61 21 3) (sd_upJ J 61 26 0) = some (M', J') ∧ tok b n k M' J' ∧ ksm M M' ∧ jsm J J' := fun z => fin 3 (by rw [if_pos z])
        by_cases g1 : b p = 59
        · rw [if_pos g1]; exact f3 (by rw [g1]; rfl)
        rw [if_neg g1]
        by_cases g2 : b p = 40
        · rw [if_pos g2]; exact f3 (by rw [g2]; rfl)
        rw [if_neg g2]
        by_cases g3 : b p = 41
        · rw [if_pos g3]; exact f3 (by rw [g3]; rfl)
        rw [if_neg g3]
        by_cases g4 : b p = 43
        · rw [if_pos g4]; exact f3 (by rw [g4]; rfl)
        rw [if_neg g4]
        by_cases g5 : b p = 45
        · rw [if_pos g5]; exact f3 (by rw [g5]; rfl)
        rw [if_neg g5]
        by_cases g6 : b p = 42
        · rw [if_pos g6]; exact f3 (by rw [g6]; rfl)
        rw [if_neg g6]
        by_cases g7 : b p = 47
        · rw [if_pos g7]; exact f3 (by rw [g7]; rfl)
        rw [if_neg g7]
        by_cases g8 : b p = 60
        · rw [if_pos g8]; exact f3 (by rw [g8]; rfl)
        rw [if_neg g8]
        by_cases g9 : b p = 61
        · rw [if_neg (sn_nn g9)]; exact f3 (by rw [g9]; rfl)
        rw [if_pos g9]
        exact fin 4 (by rw [if_neg]; unfold sgn; simp [g1, g2, g3, g4, g5, g6, g7, g8, g9])
      · rw [ed] at cd
        have cd : F_Mo_isDigit (nI (b p)) = some 1 := cd
        have hte : te b n p = rn dgt b (n - p) p := by unfold te; rw [el, ed]; rfl
        have hkd : kd b n p = if te b n p - p ≤ 4 then 10000 + nvl b (te b n p - p) p 0 else 31 := by unfold kd; rw [el, ed]; rfl
        rw [q1_of cd, if_neg (by decide)]
        obtain ⟨M', k1, k2, k3, k4, k5, k6, k7⟩ := m_r95 (p := p) (n - p) p M5 (sd_upJ J 61 26 0) sd_fu (by omega) (by rw [sd_fu_val]; omega) hb5 e520 e522 (Nat.le_refl _) (fun i h2 h3 => absurd h3 (by omega)) (fun _ => by rw [e524, Nat.sub_self]; rfl)
        rw [← hte] at k2 k5 k6
        refine ⟨M', _, k1, ⟨hb.of (s5.trans k7), ⟨te b n p, htl.2, k2, hnx⟩, by rw [hp]; exact k4, ?_, ?_, ?_, ?_, ?_⟩, s5.trans k7, jsm.refl.up⟩
        · rw [k3, hkk, hkd]
          split
          · unfold so; rw [if_neg (by omega), if_neg (by omega), if_neg (by omega), if_neg (by omega), if_neg (by omega)]; rfl
          · rfl
        · rw [hkk, hkd]
          intro z
          exact ⟨te b n p - p, by split at z <;> omega, by omega, k5⟩
        · rw [hkk, hkd]
          intro z
          split at z
          · rename_i g
            exact ⟨⟨_, g, k5⟩, by rw [k6 g, if_pos g, Nat.add_sub_cancel_left]⟩
          · omega
        · rw [hkk, hkd]
          intro z
          split at z
          · unfold so at z; rw [if_neg (by omega), if_neg (by omega), if_neg (by omega), if_neg (by omega), if_neg (by omega)] at z; omega
          · exact absurd z (by decide)
        · refine kw_no (s := 2) k3 (by omega) (by omega) ?_
          rw [hkk, hkd]; split <;> omega
    · rw [el] at cl
      have cl : F_Mo_isLetter (nI (b p)) = some 1 := cl
      have hte : te b n p = rn ltr b (n - p) p := by unfold te; rw [el]; rfl
      have hkd : kd b n p = wif b p (te b n p - p) 24 0 := by unfold kd; rw [el]; rfl
      have hwl := wif_le (b := b) (i := p) (l := te b n p - p) 24 0
      rw [q1_of cl, if_neg (by decide)]
      obtain ⟨M', J', k1, k2, k3, k4, k5, k6, k7, k8⟩ := m_r54 (p := p) (n - p) p M5 (sd_upJ J 61 26 0) sd_fu (by omega) (by rw [sd_fu_val]; omega) hb5 e520 e522 (Nat.le_refl _) (fun i h2 h3 => absurd h3 (by omega)) (fun _ => by rw [upJ_s, Nat.sub_self]; exact lN_0.symm)
      rw [← hte] at k2 k5 k6
      refine ⟨M', J', k1, ⟨hb.of (s5.trans k7), ⟨te b n p, htl.2, k2, hnx⟩, by rw [hp]; exact k4, ?_, ?_, ?_, ?_, ?_⟩, s5.trans k7, (jsm.refl.up).trans k8⟩
      · rw [k3, hkk, hkd]
        unfold so; rw [if_pos (by omega)]; rfl
      · rw [hkk, hkd]; intro z; omega
      · rw [hkk, hkd]; intro z; omega
      · rw [hkk, hkd]; intro z; unfold so at z; rw [if_pos (by omega)] at z; omega
      · rw [hkk, hkd]
        exact m_known (by omega) (fun j hj => te_lt (n := n) el j (by omega)) k6 k3 k5
  · have hkk : kk b n k = 33 := if_neg hn
    have hpn : tp b n k = n := by omega
    rw [hpn] at h20
    have e20 : sd_up (sd_up M 61 22 (nI n)) 61 24 0 61 20 = nI n := by rw [up_m (by omega), up_m (by omega)]; exact h20
    have hb3 : mtb b n (sd_up (sd_up M 61 22 (nI n)) 61 24 0) := hb.of ((ksm.refl.up (by omega)).up (by omega))
    have e520 : sd_up (sd_up (sd_up M 61 22 (nI n)) 61 24 0) 61 25 0 61 20 = nI n := by rw [up_m (by omega)]; exact e20
    have e519 : sd_up (sd_up (sd_up M 61 22 (nI n)) 61 24 0) 61 25 0 61 19 = nI n := by rw [up_m (by omega), up_m (by omega), up_m (by omega)]; exact hb.2.1
    have e522 : sd_up (sd_up (sd_up M 61 22 (nI n)) 61 24 0) 61 25 0 61 22 = nI n := by rw [up_m (by omega), up_m (by omega)]; exact up_s
    have s5 : ksm M (sd_up (sd_up (sd_up M 61 22 (nI n)) 61 24 0) 61 25 0) := ((ksm.refl.up (by omega)).up (by omega)).up (by omega)
    rw [h20, y_lt, y_lt, y_lt, e20, q1_of (m_byte0 hb3 (Nat.le_refl _) (by omega)), y_lt, e520, e519, if_neg (nI_nlt (Nat.le_refl _) (by omega)), y_lt]
    generalize sd_up (sd_up (sd_up M 61 22 (nI n)) 61 24 0) 61 25 0 = M5 at e520 e522 s5
    have hs8 : ksm M (sd_up (sd_up M5 61 21 0) 61 23 (nI (n - n))) := (s5.up (by omega)).up (by omega)
    refine ⟨_, _, m_r170 (q := n) (p := n) (by rw [up_m (by omega)]; exact e520) (by rw [up_m (by omega)]; exact e522) (by omega), ⟨hb.of hs8, ⟨n, by omega, ?_, ?_⟩, ?_, ?_, ?_, ?_, ?_, ?_⟩, hs8, jsm.refl.up⟩
    · rw [up_m (by omega), up_m (by omega)]; exact e520
    · have := skp_le (b := b) (Nat.le_refl n)
      rw [tp_end hpn 1]; omega
    · rw [hpn, up_m (by omega), up_m (by omega)]; exact e522
    · rw [hkk, up_m (by omega), up_s]; rfl
    · rw [hkk]; intro z; omega
    · rw [hkk]; intro z; omega
    · rw [hkk]; intro z; exact absurd z (by decide)
    · rw [hkk]
      exact kw_no (s := 0) (by rw [up_m (by omega)]; exact up_s) (by omega) (by omega) (by omega)
/-- the model goes on -/
theorem m_goes {k : Nat} (h : tok b n k M J) : ∃ M' J', F_Mo_goes M J = some (M', J') ∧ tok b n (k + 1) M' J' ∧ ksm M M' ∧ jsm J J' := by
  obtain ⟨hb, ⟨e, h1, h2, h3⟩, -⟩ := h
  have hn := hb.1
  obtain ⟨M1, k1, k2, k3⟩ := m_skp (J := J) (n - e) e M sd_fu (by omega) (by rw [sd_fu_val]; omega) hb h2
  obtain ⟨M', J', j1, j2, j3, j4⟩ := m_at (J := J) (k := k + 1) (hb.of k3) (by rw [k2, h3])
  exact ⟨M', J', by unfold F_Mo_goes; rw [k1, j1], j2, k3.trans j3, j4⟩
theorem m_first (hb : mtb b n M) (h20 : M 61 20 = 0) : ∃ M' J', F_Mo_goes M J = some (M', J') ∧ tok b n 0 M' J' ∧ ksm M M' ∧ jsm J J' := by
  have hn := hb.1
  obtain ⟨M1, k1, k2, k3⟩ := m_skp (J := J) (n - 0) 0 M sd_fu (by omega) (by rw [sd_fu_val]; omega) hb h20
  obtain ⟨M', J', j1, j2, j3, j4⟩ := m_at (J := J) (k := 0) (hb.of k3) (by rw [k2]; rfl)
  exact ⟨M', J', by unfold F_Mo_goes; rw [k1, j1], j2, k3.trans j3, j4⟩
end GO
