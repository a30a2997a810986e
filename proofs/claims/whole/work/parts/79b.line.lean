/-! ===== lines ===== -/
def fC (d : Nat) (C C' : sm_MI) : Prop := ∀ j, j ≠ 3 → (j < d ∨ d + 20 ≤ j) → C' j = C j
def fM (M M' : sm_MI) : Prop := (∀ k, (k < 61 ∨ (61 < k ∧ k < 74) ∨ 85 < k) → M' k = M k) ∧ ∀ j, (j < 16 ∨ j = 18 ∨ j = 19 ∨ 34 < j) → M' 61 j = M 61 j
def crl (R : Nat → List Nat) (u p : Nat) (C : sm_MI) : Prop := (C p 1 = nI u ∧ u ≤ 700) ∧ ∀ ρ, ρ < 4 → ∃ a, C (p + 2) ρ = nI a ∧ C (p + 3) ρ = nI (a + (R ρ).length) ∧ a + (R ρ).length ≤ u ∧ ∀ i s, (R ρ)[i]? = some s → C (p + 1) (a + i) = nI s
def mrl (R : Nat → List Nat) (a : Nat) (M : sm_MI) : Prop := M 61 30 = nI a ∧ ∀ ρ, ρ < 4 → (R ρ = [] → M 82 ρ = -1) ∧ (¬ R ρ = [] → ∃ x, M 82 ρ = nI x ∧ x + (mcs (ofs ρ) (R ρ)).length ≤ a ∧ ∀ i c, (mcs (ofs ρ) (R ρ))[i]? = some c → M 83 (x + i) = nI c)
def cdf (A : sA) (ev : Bool) (d : Nat) (C : sm_MI) : Prop := (C d 0 = nI (A 0 0) ∧ C d 1 = nI (A 0 1) ∧ C d 2 = nI (A 0 2)) ∧ (∀ s, s < A 0 0 → C (d + 1) s = nI (A 1 s) ∧ C (d + 2) s = nI (A 2 s) ∧ C (d + 3) s = nI (A 3 s) ∧ C (d + 4) s = nI (A 4 s) ∧ C (d + 5) s = nI (A 5 s)) ∧
  (∀ r, r < 20 → C (d + 6) r = nI (A 6 r) ∧ C (d + 7) r = nI (A 7 r) ∧ C (d + 11) r = 0 ∧ ∀ i, i < A 7 r → C (d + 8) (12 * r + i) = nI (A 8 (12 * r + i))) ∧ C 3 4 = (if ev then 1 else 0)
def mdf (A : sA) (ev : Bool) (M : sm_MI) : Prop := (M 61 27 = nI (A 0 0) ∧ M 61 28 = nI (A 0 1) ∧ M 61 29 = (if ev then nI (A 0 2) else -1)) ∧ (∀ s, s < A 0 0 → M 74 s = nI (A 1 s) ∧ M 75 s = nI (A 2 s) ∧ M 76 s = nI (A 3 s) ∧ M 77 s = nI (A 4 s) ∧ M 78 s = nI (A 5 s)) ∧
  (∀ r, r < 20 → M 79 r = nI (A 6 r) ∧ (0 < A 6 r → M 80 r = nI (A 7 r) ∧ ∀ i, i < A 7 r → M 81 (12 * r + i) = nI (A 8 (12 * r + i))))
def cnR (R : Nat → List Nat) : Nat := (if R 0 = [] then 0 else 1) + (if R 1 = [] then 0 else 1) + (if R 2 = [] then 0 else 1) + (if R 3 = [] then 0 else 1)
def ls (b : Nat → Nat) (n k : Nat) (A : sA) (R : Nat → List Nat) (ev : Bool) (u a d : Nat) (C M : sm_MI) (J : sm_MJ) : Prop := (ck b n k C ∧ mk b n k M J) ∧ (wA A ∧ (ev = false → A 0 2 = 4) ∧ rW R) ∧ (cdf A ev d C ∧ mdf A ev M) ∧ (crl R u (d + 14) C ∧ mrl R a M) ∧ (u ≤ k ∧ a ≤ 2 * u + cnR R ∧ k ≤ 700) ∧ (d = 21 ∨ d = 41)
/-- a line, or a piece of one, of the class and of the model -/
def lres (b : Nat → Nat) (n d k : Nat) (C M : sm_MI) (J : sm_MJ) (oc : Option (Int32 × sm_MI)) (om : Option (sm_MI × sm_MJ)) : Prop := ∃ r C' M' J', oc = some (r, C') ∧ om = some (M', J') ∧ (fC d C C' ∧ fM M M' ∧ jsm J J') ∧
  ((r = 1 ∧ ∃ k' A R ev u a, k < k' ∧ ls b n k' A R ev u a d C' M' J') ∨ (r = 0 ∧ ∃ e k', k' ≤ 701 ∧ cbad e k' C' ∧ mbad b n e k' M'))
theorem q3_of {α β δ γ : Type} {o : Option (α × β × δ)} {a : α} {b : β} {c : δ} {f : α → β → δ → Option γ} (h : o = some (a, b, c)) : sd_q3 o f = f a b c := by rw [h]; rfl
section LN
variable {b : Nat → Nat} {n k u a d : Nat} {A : sA} {R : Nat → List Nat} {ev : Bool} {C C' C2 M M' M2 : sm_MI} {J J' : sm_MJ}
theorem fC.refl : fC d C C := fun _ _ _ => rfl
theorem fC.trans (h : fC d C C') (g : fC d C' C2) : fC d C C2 := fun j h1 h2 => by rw [g j h1 h2, h j h1 h2]
theorem c3.fC (h : c3 C C') : fC d C C' := fun j h1 _ => h.1 j h1
theorem fC.up {i j : Nat} {z : Int32} (h : fC d C C') (hi : i = 3 ∨ (d ≤ i ∧ i < d + 20)) : fC d C (sd_up C' i j z) := h.trans fun l h1 h2 => up_n (by omega)
theorem fM.refl : fM M M := ⟨fun _ _ => rfl, fun _ _ => rfl⟩
theorem fM.trans (h : fM M M') (g : fM M' M2) : fM M M2 := ⟨fun j h1 => by rw [g.1 j h1, h.1 j h1], fun j h1 => by rw [g.2 j h1, h.2 j h1]⟩
theorem m3.fM (h : m3 M M') : fM M M' := ⟨fun k hk => h.1 k (by omega), fun j hj => h.2 j (by omega)⟩
theorem fM.up {i j : Nat} {z : Int32} (h : fM M M') (hi : (74 ≤ i ∧ i ≤ 85) ∨ (i = 61 ∧ 25 < j ∧ j ≤ 34)) : fM M (sd_up M' i j z) := by
  refine h.trans ⟨fun l hl => up_n (by omega), fun l hl => ?_⟩
  by_cases g : i = 61
  · subst g; exact up_m (by omega)
  · exact by rw [up_n (fun z => g z.symm)]
theorem cdf_of (h : cdf A ev d C) (e : ∀ j, d ≤ j → j < d + 12 → C' j = C j) (e3 : C' 3 4 = C 3 4) : cdf A ev d C' := by
  unfold cdf at h ⊢
  rw [e d (by omega) (by omega), e (d + 1) (by omega) (by omega), e (d + 2) (by omega) (by omega), e (d + 3) (by omega) (by omega), e (d + 4) (by omega) (by omega), e (d + 5) (by omega) (by omega), e (d + 6) (by omega) (by omega), e (d + 7) (by omega) (by omega), e (d + 8) (by omega) (by omega), e (d + 11) (by omega) (by omega), e3]
  exact h
theorem crl_of {p : Nat} (h : crl R u p C) (e : ∀ j, p ≤ j → j < p + 4 → C' j = C j) : crl R u p C' := by
  unfold crl at h ⊢
  rw [e p (by omega) (by omega), e (p + 1) (by omega) (by omega), e (p + 2) (by omega) (by omega), e (p + 3) (by omega) (by omega)]
  exact h
theorem mdf_of (h : mdf A ev M) (e : ∀ j, 74 ≤ j → j ≤ 81 → M' j = M j) (e1 : ∀ j, 27 ≤ j → j ≤ 29 → M' 61 j = M 61 j) : mdf A ev M' := by
  unfold mdf at h ⊢
  rw [e1 27 (by omega) (by omega), e1 28 (by omega) (by omega), e1 29 (by omega) (by omega), e 74 (by omega) (by omega), e 75 (by omega) (by omega), e 76 (by omega) (by omega), e 77 (by omega) (by omega), e 78 (by omega) (by omega), e 79 (by omega) (by omega), e 80 (by omega) (by omega), e 81 (by omega) (by omega)]
  exact h
theorem mrl_of (h : mrl R a M) (e : M' 61 30 = M 61 30) (e2 : M' 82 = M 82) (e3 : M' 83 = M 83) : mrl R a M' := by
  unfold mrl at h ⊢
  rw [e, e2, e3]
  exact h
theorem lres_bad {e k' : Nat} {oc : Option (Int32 × sm_MI)} {om : Option (sm_MI × sm_MJ)} (h1 : oc = some (0, C')) (h2 : om = some (M', J')) (h3 : fC d C C') (h4 : fM M M') (h5 : jsm J J') (hk : k' ≤ 701) (h6 : cbad e k' C') (h7 : mbad b n e k' M') : lres b n d k C M J oc om := ⟨0, C', M', J', h1, h2, ⟨h3, h4, h5⟩, Or.inr ⟨rfl, e, k', hk, h6, h7⟩⟩
theorem cbad_f {e : Nat} (h : ck b n k C) : cbad e k (sd_up C 3 7 (nI e)) := ⟨up_s, by rw [up_m (by omega)]; exact h.2.1⟩
theorem ls_ck (h : ls b n k A R ev u a d C M J) : ck b n k C := h.1.1
theorem ls_mk (h : ls b n k A R ev u a d C M J) : mk b n k M J := h.1.2
def uA (A : sA) (i j v : Nat) : sA := fun x y => if x = i ∧ y = j then v else A x y
theorem uA_s {i j v : Nat} : uA A i j v i j = v := if_pos ⟨rfl, rfl⟩
theorem uA_n {i j v x y : Nat} (h : x = i → y ≠ j) : uA A i j v x y = A x y := if_neg (fun z => h z.1 z.2)
theorem lres.from {k' : Nat} {oc : Option (Int32 × sm_MI)} {om : Option (sm_MI × sm_MJ)} (h : lres b n d k' C' M' J' oc om) (h1 : fC d C C') (h2 : fM M M') (h3 : jsm J J') (hk : k ≤ k') : lres b n d k C M J oc om := by
  obtain ⟨r, C2, M2, J2, g1, g2, ⟨g3, g4, g5⟩, g6⟩ := h
  refine ⟨r, C2, M2, J2, g1, g2, ⟨h1.trans g3, h2.trans g4, h3.trans g5⟩, ?_⟩
  rcases g6 with ⟨e, k2, A, R, ev, u, a, z1, z2⟩ | z
  · exact Or.inl ⟨e, k2, A, R, ev, u, a, by omega, z2⟩
  · exact Or.inr z
noncomputable def cend (o : Option (Int32 × sm_MI)) : Option (Int32 × sm_MI) := sd_q2 o fun r I => if r = 0 then some (0, I) else sd_q2 (F_Reader_readSign 59 I) fun r2 I2 => if r2 = 0 then some (0, I2) else some (1, I2)
theorem m_86b {e : Nat} (h : mbad b n e k M) : F_Mo_line_86 M J = some (M, J) := by
  have hs : ∃ r, F_Mo_isSign 59 M = some r := by
    unfold F_Mo_isSign
    split
    · exact ⟨_, rfl⟩
    · split <;> exact ⟨_, rfl⟩
  obtain ⟨r, hs⟩ := hs
  unfold F_Mo_line_86 F_Mo_need
  rw [q1_of hs, q1_of h.bad, if_neg (sn_nn rfl), y_q2]
/-- the end of a line -/
theorem l_end (h : ls b n k A R ev u a d C M J) : lres b n d k C M J (cend (some (1, C))) (F_Mo_line_86 M J) := by
  obtain ⟨⟨hc, hm⟩, h2, ⟨h3, h4⟩, ⟨h5, h6⟩, ⟨h7, h8, h9⟩, hd⟩ := h
  have sc := c_atS (x := 59) hc.2.2 hc.lt (by omega)
  have sm := m_sign (x := 59) hm.1 (by omega) (by omega)
  unfold cend F_Mo_line_86 F_Mo_need F_Reader_readSign
  rw [y_q2, if_neg (by decide), q1_of (show F_Mo_isSign 59 M = _ from sm), q1_of hm.good, if_pos (by decide), q1_of (show F_Reader_atSign 59 C = _ from sc)]
  by_cases e : kk b n k = 1059
  · have hn := kk_n (b := b) (n := n) (k := k) (by omega)
    have hn7 := hm.1.1.1
    obtain ⟨C1, s1, s2, s3, s4⟩ := ck_step hc (by omega)
    obtain ⟨M1, J1, g1, g2, g3, g4⟩ := mk_goes hm
    refine ⟨1, C1, M1, J1, ?_, ?_, ⟨s3.fC, g3.m3.fM, g4⟩, Or.inl ⟨rfl, k + 1, A, R, ev, u, a, by omega, ⟨s2, g2⟩, h2, ⟨cdf_of h3 (fun j _ _ => s3.1 j (by omega)) (s4 4 (by omega) (by omega)), mdf_of h4 (fun j _ _ => g3.1 j (by omega)) (fun j _ _ => g3.2 j (by omega))⟩, ⟨crl_of h5 (fun j _ _ => s3.1 j (by omega)), mrl_of h6 (g3.2 30 (by omega)) (g3.1 82 (by omega)) (g3.1 83 (by omega))⟩, ⟨by omega, h8, by omega⟩, hd⟩⟩
    · rw [if_pos (show kk b n k = 1000 + 59 from e), if_pos (by decide), q1_of s1, y_q2, if_neg (by decide)]
    · rw [if_pos (show kk b n k = 1000 + 59 from e), if_neg (by decide), q2_of g1, y_q2]
  · obtain ⟨M1, w1, w2, w3⟩ := mk_wrong (e := 1) hm (by omega)
    refine lres_bad (e := 1) (k' := k) (C' := sd_up C 3 7 (nI 1)) (M' := M1) (J' := J) ?_ ?_ (fC.refl.up (by omega)) w3.fM jsm.refl (by omega) (cbad_f hc) w2
    · rw [if_neg (show ¬ kk b n k = 1000 + 59 from e), if_neg (sn_nn rfl), q2_of (show F_Reader_fail 1 C = _ from c_fail (e := 1)), nar0, y_q2, if_pos rfl]
    · rw [if_neg (show ¬ kk b n k = 1000 + 59 from e), if_pos rfl, q1_of (show F_Mo_wrong 1 M = _ from w1), y_q2]
theorem wA_piece (h : wA A) (h1 : A 0 1 < 5) : wA (uA A 0 1 (A 0 1 + 1)) := by
  obtain ⟨w1, w2, w3, w4, w5, w6⟩ := h
  have e : ∀ x y, x ≠ 0 → uA A 0 1 (A 0 1 + 1) x y = A x y := fun x y hx => uA_n (fun z => absurd z hx)
  unfold wA
  simp only [uA_s, uA_n (show (0:Nat) = 0 → (0:Nat) ≠ 1 from fun _ => by omega), uA_n (show (0:Nat) = 0 → (2:Nat) ≠ 1 from fun _ => by omega), e 1 _ (by omega), e 2 _ (by omega), e 3 _ (by omega), e 4 _ (by omega), e 5 _ (by omega), e 6 _ (by omega), e 7 _ (by omega), e 8 _ (by omega)]
  exact ⟨w1, by omega, w3, w4, w5, fun r hr => ⟨(w6 r hr).1, (w6 r hr).2.1, fun z => ⟨by have := ((w6 r hr).2.2.1 z).1; omega, ((w6 r hr).2.2.1 z).2⟩, (w6 r hr).2.2.2⟩⟩
theorem l_piece (h : ls b n k A R ev u a d C M J) (hk : kk b n k ≠ 33) : lres b n d k C M J (cend (F_Reader_readPiece d C)) (F_Mo_line_25 17 M J) := by
  have hh := h
  obtain ⟨⟨hc, hm⟩, ⟨hw, hev, hrw⟩, ⟨h3, h4⟩, ⟨h5, h6⟩, ⟨h7, h8, h9⟩, hd⟩ := h
  have hn := kk_n hk
  have hn7 := hm.1.1.1
  have wp := hw.2.1
  unfold F_Reader_readPiece F_Mo_line_25 F_Mo_line_35
  rw [if_neg (sn_nn (show (17 : Int32) = 17 from rfl)), h3.1.2.1, h4.1.2.1]
  by_cases e : A 0 1 < 5
  · have hc1 : ck b n k (sd_up C d 1 (nI (A 0 1 + 1))) := ck_up hc (by omega)
    obtain ⟨C1, s1, s2, s3, s4⟩ := ck_step hc1 (by omega)
    obtain ⟨M1, J1, g1, g2, g3, g4⟩ := mk_goes hm
    have ne : ∀ x y, x ≠ 0 → uA A 0 1 (A 0 1 + 1) x y = A x y := fun x y hx => uA_n (fun z => absurd z hx)
    have hnew : ls b n (k + 1) (uA A 0 1 (A 0 1 + 1)) R ev u a d C1 (sd_up M1 61 28 (nI (A 0 1 + 1))) J1 := by
      refine ⟨⟨s2, mk_up g2 (by omega)⟩, ⟨wA_piece hw e, fun z => by rw [uA_n (by omega)]; exact hev z, hrw⟩, ⟨?_, ?_⟩, ⟨crl_of h5 (fun j _ _ => by rw [s3.1 j (by omega), up_n (by omega)]), mrl_of h6 (by rw [up_m (by omega), g3.2 30 (by omega)]) (by rw [up_n (by omega), g3.1 82 (by omega)]) (by rw [up_n (by omega), g3.1 83 (by omega)])⟩, ⟨by omega, h8, by omega⟩, hd⟩
      · obtain ⟨⟨c0, c1, c2⟩, c4, c5, c6⟩ := h3
        have ed : C1 d = sd_up C d 1 (nI (A 0 1 + 1)) d := s3.1 d (by omega)
        have ec : ∀ j, d < j → C1 j = C j := fun j hj => by rw [s3.1 j (by omega), up_n (by omega)]
        refine ⟨⟨?_, ?_, ?_⟩, fun s hs => ?_, fun r hr => ?_, ?_⟩
        · rw [ed, up_m (by omega), uA_n (by omega)]; exact c0
        · rw [ed, up_s, uA_s]
        · rw [ed, up_m (by omega), uA_n (by omega)]; exact c2
        · rw [uA_n (by omega)] at hs
          rw [ec (d + 1) (by omega), ec (d + 2) (by omega), ec (d + 3) (by omega), ec (d + 4) (by omega), ec (d + 5) (by omega), ne 1 _ (by omega), ne 2 _ (by omega), ne 3 _ (by omega), ne 4 _ (by omega), ne 5 _ (by omega)]
          exact c4 s hs
        · simp only [ec (d + 6) (by omega), ec (d + 7) (by omega), ec (d + 8) (by omega), ec (d + 11) (by omega), ne 6 _ (by omega), ne 7 _ (by omega), ne 8 _ (by omega)]
          exact c5 r hr
        · rw [s4 4 (by omega) (by omega), up_n (by omega)]; exact c6
      · obtain ⟨⟨c0, c1, c2⟩, c4, c5⟩ := h4
        have ec : ∀ j, 62 ≤ j → sd_up M1 61 28 (nI (A 0 1 + 1)) j = M j := fun j hj => by rw [up_n (by omega), g3.1 j (by omega)]
        refine ⟨⟨?_, ?_, ?_⟩, fun s hs => ?_, fun r hr => ?_⟩
        · rw [up_m (by omega), g3.2 27 (by omega), uA_n (by omega)]; exact c0
        · rw [up_s, uA_s]
        · rw [up_m (by omega), g3.2 29 (by omega), uA_n (by omega)]; exact c2
        · rw [uA_n (by omega)] at hs
          rw [ec 74 (by omega), ec 75 (by omega), ec 76 (by omega), ec 77 (by omega), ec 78 (by omega), ne 1 _ (by omega), ne 2 _ (by omega), ne 3 _ (by omega), ne 4 _ (by omega), ne 5 _ (by omega)]
          exact c4 s hs
        · simp only [ec 79 (by omega), ec 80 (by omega), ec 81 (by omega), ne 6 _ (by omega), ne 7 _ (by omega), ne 8 _ (by omega)]
          exact c5 r hr
    have fin := (l_end hnew).from (C := C) (M := M) (J := J) (k := k) ((fC.refl.up (by omega)).trans s3.fC) (g3.m3.fM.up (by omega)) g4 (by omega)
    have e28 : M1 61 28 = nI (A 0 1) := by rw [g3.2 28 (by omega)]; exact h4.1.2.1
    rw [if_pos (show nI (A 0 1) < 5 from nI_lt (b := 5) e (by omega)), show nI (A 0 1) + 1 = nI (A 0 1 + 1) from nI_add _ 1, y_lt, q1_of s1, if_pos (show ¬ nI (A 0 1) = 5 from fun z => by have := (nI_eq (b := 5) (by omega) (by omega)).mp z; omega), q1_of hm.good, if_pos (by decide), q2_of g1, e28, show nI (A 0 1) + 1 = nI (A 0 1 + 1) from nI_add _ 1, y_lt]
    exact fin
  · obtain ⟨M1, w1, w2, w3⟩ := mk_wrong (e := 2) hm (by omega)
    refine lres_bad (e := 2) (k' := k) (C' := sd_up C 3 7 (nI 2)) (M' := M1) (J' := J) ?_ ?_ (fC.refl.up (by omega)) w3.fM jsm.refl (by omega) (cbad_f hc) w2
    · rw [if_neg (show ¬ nI (A 0 1) < 5 from nI_nlt (b := 5) (by omega) (by omega)), q2_of (show F_Reader_fail 2 C = _ from c_fail (e := 2)), nar0]
      unfold cend
      rw [y_q2, if_pos rfl]
    · rw [if_neg (sn_nn (show nI (A 0 1) = 5 by rw [show A 0 1 = 5 by omega]; rfl)), q1_of (show F_Mo_wrong 2 M = _ from w1), q1_of w2.bad, if_neg (sn_nn rfl)]
theorem wA_every {v : Nat} (h : wA A) (h1 : 1 ≤ v) (h2 : v ≤ 9) : wA (uA A 0 2 v) := by
  obtain ⟨w1, w2, w3, w4, w5, w6⟩ := h
  have e : ∀ x y, x ≠ 0 → uA A 0 2 v x y = A x y := fun x y hx => uA_n (fun z => absurd z hx)
  unfold wA
  simp only [uA_s, uA_n (show (0:Nat) = 0 → (0:Nat) ≠ 2 from fun _ => by omega), uA_n (show (0:Nat) = 0 → (1:Nat) ≠ 2 from fun _ => by omega), e 1 _ (by omega), e 2 _ (by omega), e 3 _ (by omega), e 4 _ (by omega), e 5 _ (by omega), e 6 _ (by omega), e 7 _ (by omega), e 8 _ (by omega)]
  exact ⟨w1, w2, h1, h2, w5, w6⟩
theorem nm_some {κ x y v : Nat} (h : nm κ x y = some v) : x ≤ v ∧ v ≤ y ∧ κ = 10000 + v := by
  unfold nm at h
  split at h
  · have h : κ - 10000 = v := Option.some.inj h
    omega
  · cases h
theorem l_every (h : ls b n k A R ev u a d C M J) (hk : kk b n k ≠ 33) : lres b n d k C M J (cend (F_Reader_readEvery d C)) (F_Mo_line_25 18 M J) := by
  have hh := h
  obtain ⟨⟨hc, hm⟩, ⟨hw, hev, hrw⟩, ⟨h3, h4⟩, ⟨h5, h6⟩, ⟨h7, h8, h9⟩, hd⟩ := h
  have hn := kk_n hk
  have hn7 := hm.1.1.1
  have wp := hw.2.2
  unfold F_Reader_readEvery F_Mo_line_25 F_Mo_line_58
  rw [if_pos (show ¬ (18 : Int32) = 17 by decide), if_neg (sn_nn (show (18 : Int32) = 18 from rfl)), h3.2.2.2, h4.1.2.2]
  cases ev
  · have hc1 : ck b n k (sd_up C 3 4 1) := ck_up hc (by omega)
    obtain ⟨C1, s1, s2, s3, s4⟩ := ck_step hc1 (by omega)
    obtain ⟨M1, J1, g1, g2, g3, g4⟩ := mk_goes hm
    obtain ⟨r, C2, f1, f2, f3⟩ := c_numr (x := 1) (y := 9) s2 (by omega) (by omega) (by omega)
    obtain ⟨v, M2, J2, v1, v2, v3, v4⟩ := m_numr (x := 1) (y := 9) g2 (by omega) (by omega)
    have ec1 : (sd_q2 (F_Reader_readNumber 1 9 C1) fun r3 I4 => if ¬ r3 = 0 then sd_lt (sd_up I4 d 2 (I4 3 3)) fun I5 => some ((1 : Int32), I5) else some (0, I4)) = if ¬ r = 0 then some (1, sd_up C2 d 2 (C2 3 3)) else some (0, C2) := by
      rw [q2_of (show F_Reader_readNumber 1 9 C1 = _ from f1), y_lt]
    rw [if_pos (show (if false = true then (1 : Int32) else 0) = 0 from rfl), y_lt, q1_of s1, ec1, if_pos (show (if false = true then nI (A 0 2) else -1) = -1 from rfl), q1_of hm.good, if_pos (show ¬ (1 : Int32) = 0 by decide), q2_of g1, q3_of (show F_Mo_number 1 9 M1 J1 = _ from v1), y_lt]
    have fcc : fC d C C2 := ((fC.refl.up (by omega)).trans s3.fC).trans f2.fC
    have fmm : fM M M2 := g3.m3.fM.trans v2.fM
    rcases f3 with ⟨rfl, z, y1, y2, y3⟩ | ⟨rfl, y1, y2⟩
    · rcases v4 with ⟨z', x1, x2, x3⟩ | ⟨x1, -⟩
      · rw [y1] at x1
        cases x1
        subst x2
        obtain ⟨z1, z2, z3⟩ := nm_some y1
        have ne : ∀ x y, x ≠ 0 → uA A 0 2 z x y = A x y := fun x y hx => uA_n (fun z => absurd z hx)
        have hnew : ls b n (k + 1 + 1) (uA A 0 2 z) R true u a d (sd_up C2 d 2 (C2 3 3)) (sd_up M2 61 29 (nI z)) J2 := by
          refine ⟨⟨ck_up y3 (by omega), mk_up x3 (by omega)⟩, ⟨wA_every hw z1 z2, (fun z => by cases z), hrw⟩, ⟨?_, ?_⟩, ⟨crl_of h5 (fun j _ _ => by rw [up_n (by omega), f2.1 j (by omega), s3.1 j (by omega), up_n (by omega)]), mrl_of h6 (by rw [up_m (by omega), v2.2 30 (by omega), g3.2 30 (by omega)]) (by rw [up_n (by omega), v2.1 82 (by omega), g3.1 82 (by omega)]) (by rw [up_n (by omega), v2.1 83 (by omega), g3.1 83 (by omega)])⟩, ⟨by omega, h8, by have := kk_n (b := b) (n := n) (k := k + 1) (by omega); omega⟩, hd⟩
          · obtain ⟨⟨c0, c1, c2⟩, c4, c5, c6⟩ := h3
            have ec : ∀ j, d < j → sd_up C2 d 2 (C2 3 3) j = C j := fun j hj => by rw [up_n (by omega), f2.1 j (by omega), s3.1 j (by omega), up_n (by omega)]
            have ed : ∀ j, C2 d j = C d j := fun j => by rw [f2.1 d (by omega), s3.1 d (by omega), up_n (by omega)]
            refine ⟨⟨?_, ?_, ?_⟩, fun s hs => ?_, fun r hr => ?_, ?_⟩
            · rw [up_m (by omega), ed, uA_n (by omega)]; exact c0
            · rw [up_m (by omega), ed, uA_n (by omega)]; exact c1
            · rw [up_s, y2, uA_s]
            · rw [uA_n (by omega)] at hs
              rw [ec (d + 1) (by omega), ec (d + 2) (by omega), ec (d + 3) (by omega), ec (d + 4) (by omega), ec (d + 5) (by omega), ne 1 _ (by omega), ne 2 _ (by omega), ne 3 _ (by omega), ne 4 _ (by omega), ne 5 _ (by omega)]
              exact c4 s hs
            · simp only [ec (d + 6) (by omega), ec (d + 7) (by omega), ec (d + 8) (by omega), ec (d + 11) (by omega), ne 6 _ (by omega), ne 7 _ (by omega), ne 8 _ (by omega)]
              exact c5 r hr
            · rw [up_n (by omega), f2.2 4 (by omega) (by omega) (by omega) (by omega), s4 4 (by omega) (by omega), up_s]; rfl
          · obtain ⟨⟨c0, c1, c2⟩, c4, c5⟩ := h4
            have ec : ∀ j, 62 ≤ j → sd_up M2 61 29 (nI z) j = M j := fun j hj => by rw [up_n (by omega), v2.1 j (by omega), g3.1 j (by omega)]
            refine ⟨⟨?_, ?_, ?_⟩, fun s hs => ?_, fun r hr => ?_⟩
            · rw [up_m (by omega), v2.2 27 (by omega), g3.2 27 (by omega), uA_n (by omega)]; exact c0
            · rw [up_m (by omega), v2.2 28 (by omega), g3.2 28 (by omega), uA_n (by omega)]; exact c1
            · rw [up_s, uA_s]; rfl
            · rw [uA_n (by omega)] at hs
              rw [ec 74 (by omega), ec 75 (by omega), ec 76 (by omega), ec 77 (by omega), ec 78 (by omega), ne 1 _ (by omega), ne 2 _ (by omega), ne 3 _ (by omega), ne 4 _ (by omega), ne 5 _ (by omega)]
              exact c4 s hs
            · simp only [ec 79 (by omega), ec 80 (by omega), ec 81 (by omega), ne 6 _ (by omega), ne 7 _ (by omega), ne 8 _ (by omega)]
              exact c5 r hr
        rw [if_pos (by decide)]
        exact (l_end hnew).from (fcc.up (by omega)) (fmm.up (by omega)) (g4.trans v3) (by omega)
      · rw [y1] at x1; cases x1
    · rcases v4 with ⟨z', x1, -⟩ | ⟨x1, x2⟩
      · rw [y1] at x1; cases x1
      · have x3 : mbad b n (ne (kk b n (k + 1))) (k + 1) (sd_up M2 61 29 v) := mbad_up x2 (fun _ => by omega)
        refine lres_bad (C' := C2) (M' := sd_up M2 61 29 v) (J' := J2) ?_ ?_ fcc (fmm.up (by omega)) (g4.trans v3) (by omega) y2 x3
        · rw [if_neg (sn_nn rfl)]
          unfold cend
          rw [y_q2, if_pos rfl]
        · exact m_86b x3
  · obtain ⟨M1, w1, w2, w3⟩ := mk_wrong (e := 5) hm (by omega)
    refine lres_bad (e := 5) (k' := k) (C' := sd_up C 3 7 (nI 5)) (M' := M1) (J' := J) ?_ ?_ (fC.refl.up (by omega)) w3.fM jsm.refl (by omega) (cbad_f hc) w2
    · rw [if_neg (show ¬ (if true = true then (1 : Int32) else 0) = 0 by decide), q2_of (show F_Reader_fail 5 C = _ from c_fail (e := 5)), nar0]
      unfold cend
      rw [y_q2, if_pos rfl]
    · rw [if_neg (show ¬ (if true = true then nI (A 0 2) else -1) = -1 from sn_ne1 (by omega)), q1_of (show F_Mo_wrong 5 M = _ from w1), q1_of w2.bad, if_neg (sn_nn rfl)]
end LN
