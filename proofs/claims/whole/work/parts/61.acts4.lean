/-! ===== forget, image, restore, feed ===== -/
/-- class and model do alike -/
def ansv (A : sA) (R : Nat → List Nat) (t : Nat) (C M : sm_MI) (o m : Option sm_MI) : Prop := ∃ C' M', o = some C' ∧ m = some M' ∧ Rel A R t C' M' ∧ (∀ k, 61 ≤ k → C' k = C k) ∧ ∀ k, k < 61 → M' k = M k
section AC
variable {A : sA} {R : Nat → List Nat} {t : Nat} {C M C' M' : sm_MI}
theorem x_forget (h : Rel A R t C M) : ansv A R t C M (F_VM_forget C) (F_Mo_forget M) := by
  obtain ⟨M1, hM1, h0, h, hs⟩ := h.start
  unfold F_VM_forget F_Mo_forget
  rw [hM1, y_lt, y_lt, y_lt]
  refine ⟨_, _, rfl, rfl, ?_, fun k hk => up_n (by omega), fun k hk => by rw [up_n (by omega), hs.2.2 k hk]⟩
  refine h.act (fun k h1 h2 h3 h4 h5 h6 => up_n (by omega)) (fun k h1 h2 h3 h4 h5 h6 h7 h8 h9 => up_n h1) (fun j h1 h2 h3 h4 => up_m h3) ⟨?_, ?_, ?_⟩ (fun k hk => by rw [up_n (by omega), up_n (by omega)]; exact h.re k hk)
  · rw [up_n (by omega)]
    show stR (A 0 0) (M1 86) (sd_up C 8 6 0 9)
    rw [up_n (by omega)]
    exact h.st
  · exact ahR_s h.ah (up_m (by omega)) (up_m (by omega)) (up_n (by omega)) (up_n (by omega))
  · exact ⟨0, by omega, up_s, up_s, fun k hk => absurd hk (by omega)⟩
theorem va_n {I : sm_MI} {k k' : Nat} {g : Nat → Int32} (h : k' ≠ k) : va_up I k g k' = I k' := by unfold va_up; rw [if_neg h]
theorem va_s {I : sm_MI} {k : Nat} {g : Nat → Int32} : va_up I k g k = g := by unfold va_up; rw [if_pos rfl]
theorem c_copyS {p q : Nat} (h : p + 6 ≤ q ∨ q + 6 ≤ p) : ∃ C', F_Story_copyFrom p q C = some C' ∧ (∀ j, j < 5 → C' (p + 1) j = C (q + 1) j) ∧ (∀ j, j < 200 → C' (p + 2) j = C (q + 2) j) ∧ C' p 2 = C q 2 ∧ (∀ j, j < 8 → C' (p + 3) j = C (q + 3) j ∧ C' (p + 4) j = C (q + 4) j ∧ C' (p + 5) j = C (q + 5) j) ∧ C' p 6 = C q 6 ∧ ∀ k, k < p ∨ p + 6 ≤ k → C' k = C k := by
  have g200 : ∀ {α : Type} {o : Option α}, sd_gu (¬ (0 : Int32) < 0 ∧ ¬ (0 : Int32) < 0 ∧ ¬ (200 : Int32) < 0 ∧ 0 + 200 ≤ 200 ∧ 0 + 200 ≤ 200) o = o := fun {α o} => sn_gu (by decide)
  have g8 : ∀ {α : Type} {o : Option α}, sd_gu (¬ (0 : Int32) < 0 ∧ ¬ (0 : Int32) < 0 ∧ ¬ (8 : Int32) < 0 ∧ 0 + 8 ≤ 8 ∧ 0 + 8 ≤ 8) o = o := fun {α o} => sn_gu (by decide)
  have cp : ∀ (f g : Nat → Int32) (n j : Nat), j < n → va_cpy f g 0 0 n j = f j := fun f g n j hj => by rw [pk_cpy_in (by omega) (by omega), Nat.sub_zero, Nat.zero_add]
  unfold F_Story_copyFrom F_State_copyFrom
  simp only [y_lt, y_q1]
  rw [g200, g8, g8, g8]
  refine ⟨_, rfl, fun j hj => ?_, fun j hj => ?_, ?_, fun j hj => ⟨?_, ?_, ?_⟩, ?_, fun k hk => ?_⟩
  · rcases (show j = 0 ∨ j = 1 ∨ j = 2 ∨ j = 3 ∨ j = 4 by omega) with rfl | rfl | rfl | rfl | rfl <;> simp (disch := omega) only [va_n, va_s, up_n, up_s, up_m]
  · simp (disch := omega) only [va_n, va_s, up_n, up_s, up_m, cp]
  · simp (disch := omega) only [va_n, va_s, up_n, up_s, up_m, cp]
  · simp (disch := omega) only [va_n, va_s, up_n, up_s, up_m, cp]
  · simp (disch := omega) only [va_n, va_s, up_n, up_s, up_m, cp]
  · simp (disch := omega) only [va_n, va_s, up_n, up_s, up_m, cp]
  · simp (disch := omega) only [va_n, va_s, up_n, up_s, up_m, cp]
  · simp (disch := omega) only [va_n, va_s, up_n, up_s, up_m, cp]
theorem chR_cp {p q : Nat} {nw ah he nw' ah' he' : Nat → Int32} {a h : Int32} (hn : A 0 0 ≤ 14) (hc : chR A C p nw ah he a h) (e1 : ∀ j, j < 5 → C' (q + 1) j = C (p + 1) j) (e2 : ∀ j, j < 200 → C' (q + 2) j = C (p + 2) j) (e3 : C' q 2 = C p 2) (e4 : ∀ j, j < 8 → C' (q + 3) j = C (p + 3) j ∧ C' (q + 4) j = C (p + 4) j ∧ C' (q + 5) j = C (p + 5) j) (e5 : C' q 6 = C p 6)
    (f1 : ∀ j, j < 16 → nw' j = nw j) (f2 : ∀ j, j < 640 → ah' j = ah j) (f3 : ∀ j, j < 24 → he' j = he j) : chR A C' q nw' ah' he' a h := by
  obtain ⟨c1, ⟨u, u1, u2, u3, u4⟩, ⟨w, w1, w2, w3, w4⟩⟩ := hc
  refine ⟨stR_r hn c1 f1 e1, ⟨u, u1, by rw [e3]; exact u2, u3, fun j hj => ?_⟩, ⟨w, w1, by rw [e5]; exact w2, w3, fun k hk => ?_⟩⟩
  · exact stR_r hn (u4 j hj) (fun s hs => f2 _ (by omega)) (fun s hs => e2 _ (by omega))
  · obtain ⟨r, i, v, g1, g2, g3, g4, g5, g6, g7, g8, g9⟩ := w4 k hk
    obtain ⟨z3, z4, z5⟩ := e4 k (by omega)
    exact ⟨r, i, v, g1, g2, g3, by rw [f3 _ (by omega)]; exact g4, by rw [f3 _ (by omega)]; exact g5, by rw [f3 _ (by omega)]; exact g6, by rw [z3]; exact g7, by rw [z4]; exact g8, by rw [z5]; exact g9⟩
theorem x_image (h : Rel A R t C M) : ansv A R t C M (F_VM_image C) (F_Mo_image M) := by
  obtain ⟨M1, hM1, h0, h, hs⟩ := h.start
  have hn := h.wa.1
  have ht := h.tt
  obtain ⟨C1, c1, c2, c3, c4, c5, c6, c7⟩ := c_copyS (C := C) (p := 14) (q := 8) (by omega)
  obtain ⟨N1, a1, a2, a3⟩ := m_copies (p := 86) (q := 93) (I := sd_up (sd_up (sd_up M1 61 57 1) 61 58 (M1 61 50)) 61 59 (M1 61 53)) sdn86 sdn93 (by omega) (by omega)
  obtain ⟨N2, b1, b2, b3⟩ := m_copies (p := 88) (q := 94) (I := N1) sdn88 sdn94 (by omega) (by omega)
  obtain ⟨N3, d1, d2, d3⟩ := m_copies (p := 91) (q := 95) (I := N2) sdn91 sdn95 (by omega) (by omega)
  have o61 : ∀ j, j ≠ 57 → j ≠ 58 → j ≠ 59 → N3 61 j = M1 61 j := fun j h1 h2 h3 => by rw [d3 61 (by omega), b3 61 (by omega), a3 61 (by omega), up_m h3, up_m h2, up_m h1]
  have oth : ∀ k, k ≠ 61 → k ≠ 93 → k ≠ 94 → k ≠ 95 → N3 k = M1 k := fun k h1 h2 h3 h4 => by rw [d3 k h4, b3 k h3, a3 k h2, up_n h1, up_n h1, up_n h1]
  refine ⟨sd_up C1 0 9 1, N3, ?_, ?_, ?_, fun k hk => by rw [up_n (by omega), c7 k (by omega)], fun k hk => by rw [oth k (by omega) (by omega) (by omega) (by omega), hs.2.2 k hk]⟩
  · unfold F_VM_image
    rw [c1, sn_q1, y_lt]
  · unfold F_Mo_image
    rw [hM1]
    simp only [y_lt]
    rw [show (sd_up M1 61 57 1) 61 50 = M1 61 50 from up_m (by omega), show (sd_up (sd_up M1 61 57 1) 61 58 (M1 61 50)) 61 53 = M1 61 53 from by rw [up_m (by omega), up_m (by omega)], a1, sn_q1, b1, sn_q1, d1, sn_q1]
  · obtain ⟨⟨h1, h2, h3, h4, h5, h6⟩, h7, h8, h9, h10, h11, h12⟩ := h
    have cK : ∀ k, k < 14 ∨ 20 ≤ k → k ≠ 0 → sd_up C1 0 9 1 k = C k := fun k hk hk0 => by rw [up_n hk0, c7 k (by omega)]
    have c0 : ∀ j, j ≠ 9 → sd_up C1 0 9 1 0 j = C 0 j := fun j hj => by rw [up_m hj, c7 0 (by omega)]
    refine ⟨⟨h1, h2, cA_same h3 (fun k hk => cK _ (by omega) (by omega)), ?_, mA_of h5 (o61 1 (by omega) (by omega) (by omega)) (o61 2 (by omega) (by omega) (by omega)) (o61 3 (by omega) (by omega) (by omega)) (fun k a b => oth k (by omega) (by omega) (by omega) (by omega)), ?_⟩, ?_, ⟨?_, Or.inr ⟨up_s, ?_⟩⟩, ?_, ?_, ?_, h12⟩
    · unfold rC
      rw [cK _ (by omega) (by omega), cK _ (by omega) (by omega), cK _ (by omega) (by omega)]
      exact h4
    · unfold rM
      rw [oth 70 (by omega) (by omega) (by omega) (by omega), oth 71 (by omega) (by omega) (by omega) (by omega)]
      exact h6
    · rw [oth 86 (by omega) (by omega) (by omega) (by omega), oth 88 (by omega) (by omega) (by omega) (by omega), oth 91 (by omega) (by omega) (by omega) (by omega), o61 50 (by omega) (by omega) (by omega), o61 53 (by omega) (by omega) (by omega)]
      exact chR_C h7 (fun k hk => cK _ (by omega) (by omega))
    · rw [up_s, d3 61 (by omega), b3 61 (by omega), a3 61 (by omega), up_m (by omega), up_m (by omega), up_s]
    · have e58 : N3 61 58 = M1 61 50 := by rw [d3 61 (by omega), b3 61 (by omega), a3 61 (by omega), up_m (by omega), up_s]
      have e59 : N3 61 59 = M1 61 53 := by rw [d3 61 (by omega), b3 61 (by omega), a3 61 (by omega), up_s]
      rw [e58, e59]
      refine chR_cp hn h7 (fun j hj => ?_) (fun j hj => ?_) ?_ (fun j hj => ⟨?_, ?_, ?_⟩) ?_ (fun j hj => ?_) (fun j hj => ?_) (fun j hj => ?_)
      · rw [up_n (by omega)]; exact c2 j hj
      · rw [up_n (by omega)]; exact c3 j hj
      · rw [up_n (by omega)]; exact c4
      · rw [up_n (by omega)]; exact (c5 j hj).1
      · rw [up_n (by omega)]; exact (c5 j hj).2.1
      · rw [up_n (by omega)]; exact (c5 j hj).2.2
      · rw [up_n (by omega)]; exact c6
      · rw [d3 93 (by omega), b3 93 (by omega), a2 j hj, up_n (by omega), up_n (by omega), up_n (by omega)]
      · rw [d3 94 (by omega), b2 j hj, a3 88 (by omega), up_n (by omega), up_n (by omega), up_n (by omega)]
      · rw [d2 j hj, b3 91 (by omega), a3 91 (by omega), up_n (by omega), up_n (by omega), up_n (by omega)]
    · rw [c0 8 (by omega), o61 17 (by omega) (by omega) (by omega)]; exact h9
    · rw [cK 1 (by omega) (by omega), oth 73 (by omega) (by omega) (by omega) (by omega)]; exact h10
    · rw [cK 4 (by omega) (by omega), cK 5 (by omega) (by omega), oth 72 (by omega) (by omega) (by omega) (by omega), o61 15 (by omega) (by omega) (by omega)]; exact h11
theorem x_restore (h : Rel A R t C M) : ans A R t C M (F_VM_restore C) (F_Mo_restore M) (fun v => .inl v) := by
  obtain ⟨M1, hM1, h0, h, hs⟩ := h.start
  have hn := h.wa.1
  have ht := h.tt
  obtain ⟨i1, i2⟩ := h.2.2.1
  unfold F_VM_restore F_Mo_restore
  rw [hM1]
  rcases i2 with i2 | ⟨i2, i3⟩
  · refine ans_v (r := 0) (v := 0) (C' := C) (M' := M1) ?_ ?_ h (fun _ _ => rfl) hs.2.2 rfl h0
    · rw [if_pos i2, i2, nar0]
    · rw [y_lt, ← i1, i2, if_neg (sn_nn rfl)]
  · obtain ⟨C1, c1, c2, c3, c4, c5, c6, c7⟩ := c_copyS (C := C) (p := 8) (q := 14) (by omega)
    obtain ⟨N1, a1, a2, a3⟩ := m_copies (p := 93) (q := 86) (I := sd_up (sd_up M1 61 50 (M1 61 58)) 61 53 (M1 61 59)) sdn93 sdn86 (by omega) (by omega)
    obtain ⟨N2, b1, b2, b3⟩ := m_copies (p := 94) (q := 88) (I := N1) sdn94 sdn88 (by omega) (by omega)
    obtain ⟨N3, d1, d2, d3⟩ := m_copies (p := 95) (q := 91) (I := N2) sdn95 sdn91 (by omega) (by omega)
    have o61 : ∀ j, j ≠ 50 → j ≠ 53 → N3 61 j = M1 61 j := fun j h1 h2 => by rw [d3 61 (by omega), b3 61 (by omega), a3 61 (by omega), up_m h2, up_m h1]
    have oth : ∀ k, k ≠ 61 → k ≠ 86 → k ≠ 88 → k ≠ 91 → N3 k = M1 k := fun k h1 h2 h3 h4 => by rw [d3 k h4, b3 k h3, a3 k h2, up_n h1, up_n h1]
    refine ans_v (r := 1) (v := 1) (C' := C1) (M' := N3) ?_ ?_ ?_ (fun k hk => c7 k (by omega)) (fun k hk => by rw [oth k (by omega) (by omega) (by omega) (by omega), hs.2.2 k hk]) rfl (by rw [o61 0 (by omega) (by omega)]; exact h0)
    · rw [i2, if_neg n10, c1, sn_q1, c7 0 (by omega), i2, nar1]
    · rw [y_lt, ← i1, i2, if_pos n10]
      simp only [y_lt]
      rw [show (sd_up M1 61 50 (M1 61 58)) 61 59 = M1 61 59 from up_m (by omega), a1, sn_q1, b1, sn_q1, d1, sn_q1]
    · refine h.act (fun k h1 h2 h3 h4 h5 h6 => c7 k (by omega)) (fun k h1 h2 h3 h4 h5 h6 h7 h8 h9 => oth k h1 h3 h5 h8) (fun j h1 h2 h3 h4 => o61 j h2 h3) ?_ (fun k hk => by rw [c7 1 (by omega), oth 73 (by omega) (by omega) (by omega) (by omega)]; exact h.re k hk)
      have e50 : N3 61 50 = M1 61 58 := by rw [d3 61 (by omega), b3 61 (by omega), a3 61 (by omega), up_m (by omega), up_s]
      have e53 : N3 61 53 = M1 61 59 := by rw [d3 61 (by omega), b3 61 (by omega), a3 61 (by omega), up_s]
      rw [e50, e53]
      refine chR_cp hn i3 c2 c3 c4 c5 c6 (fun j hj => ?_) (fun j hj => ?_) (fun j hj => ?_)
      · rw [d3 86 (by omega), b3 86 (by omega), a2 j hj, up_n (by omega), up_n (by omega)]
      · rw [d3 88 (by omega), b2 j hj, a3 94 (by omega), up_n (by omega), up_n (by omega)]
      · rw [d2 j hj, b3 95 (by omega), a3 95 (by omega), up_n (by omega), up_n (by omega)]
/-! the tape -/
theorem ush8 (x : Int32) : ∀ s, s < 25 → sd_ush x (nI s) &&& 255 = x >>> (nI s &&& 31) &&& 255 := by
  intro s hs
  apply b_ext
  intro i hi
  rw [b_and, b_and]
  have hm : ∀ i, i < 32 → 8 ≤ i → bt 255 i = false := by
    have h : ∀ i, i < 24 → bt 255 (i + 8) = false := by decide +kernel
    intro i h1 h2
    have := h (i - 8) (by omega)
    rwa [show i - 8 + 8 = i by omega] at this
  by_cases h8 : i < 8
  · have e1 : bt (x >>> (nI s &&& 31)) i = bt x (s + i) := by
      rw [b_sshr s (by omega) x hi, if_pos (by omega)]
    have e3 : ∀ s, s < 25 → (((nI s).toUInt32 &&& Int32.toUInt32 31).toBitVec % 32).toNat = s := by decide +kernel
    have e2 : bt (sd_ush x (nI s)) i = bt x (s + i) := by
      unfold sd_ush bt
      show (x.toBitVec >>> (((nI s).toUInt32 &&& Int32.toUInt32 31).toBitVec % 32)).getLsbD i = _
      rw [BitVec.ushiftRight_eq', e3 s hs, BitVec.getLsbD_ushiftRight]
    rw [e1, e2]
  · rw [hm i hi (by omega), Bool.and_false, Bool.and_false]
def tpR (C M : sm_MI) (f : Nat) : Prop := f ≤ 700 ∧ C 4 1 = nI f ∧ M 61 15 = nI f ∧ ∀ j, j < f → ∃ b, b < 256 ∧ C 5 j = nI b ∧ M 72 j = nI b
theorem x_put {x : Int32} : ∀ (m : Nat) (g : Nat) (C M : sm_MI) (f : Nat), m ≤ 4 → m < g → tpR C M f → f + m ≤ 700 → ∃ C' M', F_Tape_put_2 g x (nI (8 * m) + -8) C = some C' ∧ F_Mo_lays_2 g x (nI (8 * m) + -8) M = some M' ∧ tpR C' M' (f + m) ∧ (∀ j, j ≠ 1 → C' 4 j = C 4 j) ∧ (∀ k, k ≠ 4 → k ≠ 5 → C' k = C k) ∧ (∀ j, j ≠ 15 → M' 61 j = M 61 j) ∧ ∀ k, k ≠ 61 → k ≠ 72 → M' k = M k
  | 0, g, C, M, f, _, hg, ht, _ => by
    obtain ⟨g, rfl⟩ : ∃ z, g = z + 1 := ⟨g - 1, by omega⟩
    refine ⟨C, M, ?_, ?_, ht, fun _ _ => rfl, fun _ _ _ => rfl, fun _ _ => rfl, fun _ _ _ => rfl⟩
    · show F_Tape_put_2B (F_Tape_put_2 g) x (nI 0 + -8) C = _
      unfold F_Tape_put_2B
      rw [if_pos (show nI 0 + -8 < 0 by decide)]
    · show F_Mo_lays_2B (F_Mo_lays_2 g) x (nI 0 + -8) M = _
      unfold F_Mo_lays_2B
      rw [if_pos (show nI 0 + -8 < 0 by decide)]
  | m + 1, g, C, M, f, hm, hg, ht, hf => by
    obtain ⟨g, rfl⟩ : ∃ z, g = z + 1 := ⟨g - 1, by omega⟩
    obtain ⟨t1, t2, t3, t4⟩ := ht
    have es : nI (8 * (m + 1)) + -8 = nI (8 * m) := by
      have : ∀ m, m < 4 → nI (8 * (m + 1)) + -8 = nI (8 * m) := by decide +kernel
      exact this m (by omega)
    obtain ⟨b, hb1, hb2⟩ := pk_andE (x >>> (nI (8 * m) &&& 31)) (m := 255) 8 (by decide)
    have hu := ush8 x (8 * m) (by omega)
    rw [hb2] at hu
    obtain ⟨C', M', p1, p2, p3, p4, p5, p6, p7⟩ := x_put (x := x) m g (sd_up (sd_up C 5 f (nI b)) 4 1 (nI (f + 1))) (sd_up (sd_up M 72 f (nI b)) 61 15 (nI (f + 1))) (f + 1) (by omega) (by omega) ⟨by omega, up_s, up_s, fun j hj => by
      rw [show (sd_up (sd_up C 5 f (nI b)) 4 1 (nI (f + 1))) 5 = sd_up C 5 f (nI b) 5 from up_n (by omega), show (sd_up (sd_up M 72 f (nI b)) 61 15 (nI (f + 1))) 72 = sd_up M 72 f (nI b) 72 from up_n (by omega)]
      by_cases e : j = f
      · subst e; exact ⟨b, hb1, up_s, up_s⟩
      · rw [up_m e, up_m e]; exact t4 j (by omega)⟩ (by omega)
    refine ⟨C', M', ?_, ?_, by rw [show f + (m + 1) = f + 1 + m by omega]; exact p3, fun j hj => by rw [p4 j hj, up_m hj, up_n (by omega)], fun k h4 h5 => by rw [p5 k h4 h5, up_n h4, up_n h5], fun j hj => by rw [p6 j hj, up_m hj, up_n (by omega)], fun k h1 h2 => by rw [p7 k h1 h2, up_n h1, up_n h2]⟩
    · have hu1 : ∀ a, F_Tape_put_2 (g + 1) x a C = F_Tape_put_2B (F_Tape_put_2 g) x a C := fun a => rfl
      rw [hu1, es]
      unfold F_Tape_put_2B
      rw [if_neg (nI_pos (by omega)), t2, if_neg (nI_pos (by omega)), if_neg (show ¬ (700 : Int32) ≤ nI f from nI_ge (b := 700) (by omega) (by omega)), sn_gu (sn_in' (by omega) (by omega)), y_lt, y_lt, nI_clamp (by omega), hu, up_n (by omega), t2, nI_1]
      exact p1
    · have hu1 : ∀ a, F_Mo_lays_2 (g + 1) x a M = F_Mo_lays_2B (F_Mo_lays_2 g) x a M := fun a => rfl
      rw [hu1, es]
      unfold F_Mo_lays_2B
      rw [if_neg (nI_pos (by omega)), t3, sn_gu (sn_in' (by omega) (by omega)), y_lt, y_lt, nI_clamp (by omega), hb2, up_n (by omega), t3, nI_1]
      exact p2
theorem x_put4 {x : Int32} {f : Nat} (h : tpR C M f) (hf : f + 4 ≤ 700) : ∃ C' M', F_Tape_put x C = some C' ∧ F_Mo_lays x M = some M' ∧ tpR C' M' (f + 4) ∧ (∀ j, j ≠ 1 → C' 4 j = C 4 j) ∧ (∀ k, k ≠ 4 → k ≠ 5 → C' k = C k) ∧ (∀ j, j ≠ 15 → M' 61 j = M 61 j) ∧ ∀ k, k ≠ 61 → k ≠ 72 → M' k = M k :=
  x_put 4 sd_fu C M f (by omega) (by rw [sd_fu_val]; omega) h hf
theorem x_feed (h : Rel A R t C M) (a b c d e : Int32) : ans A R t C M (F_VM_feed a b c d e C) (F_Mo_feed a b c d e M) (fun v => .inl v) := by
  obtain ⟨M1, hM1, h0, h, hs⟩ := h.start
  have ht := h.tt
  have htp := h.2.2.2.2.2.1
  obtain ⟨f, f1, f2, f3, f4⟩ := htp
  unfold F_VM_feed F_Mo_feed
  rw [hM1]
  by_cases hf : f ≤ 680
  · obtain ⟨C1, M2, a1, a2, a3, a4, a5, a6, a7⟩ := x_put4 (x := a) (f := f) (C := C) (M := M1) ⟨f1, f2, f3, f4⟩ (by omega)
    obtain ⟨C2, M3, b1, b2, b3, b4, b5, b6, b7⟩ := x_put4 (x := b) a3 (by omega)
    obtain ⟨C3, M4, c1, c2, c3, c4, c5, c6, c7⟩ := x_put4 (x := c) b3 (by omega)
    obtain ⟨C4, M5, d1, d2, d3, d4, d5, d6, d7⟩ := x_put4 (x := d) c3 (by omega)
    obtain ⟨C5, M6, e1, e2, e3, e4, e5, e6, e7⟩ := x_put4 (x := e) d3 (by omega)
    have cK : ∀ k, k ≠ 4 → k ≠ 5 → C5 k = C k := fun k h4 h5 => by rw [e5 k h4 h5, d5 k h4 h5, c5 k h4 h5, b5 k h4 h5, a5 k h4 h5]
    have mJ : ∀ j, j ≠ 15 → M6 61 j = M1 61 j := fun j hj => by rw [e6 j hj, d6 j hj, c6 j hj, b6 j hj, a6 j hj]
    have mK : ∀ k, k ≠ 61 → k ≠ 72 → M6 k = M1 k := fun k h1 h2 => by rw [e7 k h1 h2, d7 k h1 h2, c7 k h1 h2, b7 k h1 h2, a7 k h1 h2]
    obtain ⟨g1, g2, g3, g4⟩ := e3
    refine ans_v (r := C5 4 1) (v := M6 61 15) (C' := C5) (M' := M6) ?_ ?_ ?_ (fun k hk => cK k (by omega) (by omega)) (fun k hk => by rw [mK k (by omega) (by omega), hs.2.2 k hk]) (by rw [g2, g3]) (by rw [mJ 0 (by omega)]; exact h0)
    · rw [f2, if_pos (show nI f ≤ (680 : Int32) from nI_le (b := 680) hf (by omega)), a1, sn_q1, b1, sn_q1, c1, sn_q1, d1, sn_q1, e1, sn_q1]
    · rw [y_lt, f3, show nI f + 20 = nI (f + 20) from nI_add f 20, if_pos (show nI (f + 20) ≤ (700 : Int32) from nI_le (b := 700) (by omega) (by omega)), a2, sn_q1, b2, sn_q1, c2, sn_q1, d2, sn_q1, e2, sn_q1]
    · obtain ⟨⟨h1, h2, h3, h4, h5, h6⟩, h7, h8, h9, h10, h11, h12⟩ := h
      refine ⟨⟨h1, h2, cA_same h3 (fun k hk => cK _ (by omega) (by omega)), ?_, mA_of h5 (mJ 1 (by omega)) (mJ 2 (by omega)) (mJ 3 (by omega)) (fun k a b => mK k (by omega) (by omega)), ?_⟩, ?_, ?_, ?_, ?_, ⟨f + 4 + 4 + 4 + 4 + 4, g1, g2, g3, g4⟩, h12⟩
      · unfold rC
        rw [cK _ (by omega) (by omega), cK _ (by omega) (by omega), cK _ (by omega) (by omega)]
        exact h4
      · unfold rM
        rw [mK 70 (by omega) (by omega), mK 71 (by omega) (by omega)]
        exact h6
      · rw [mK 86 (by omega) (by omega), mK 88 (by omega) (by omega), mK 91 (by omega) (by omega), mJ 50 (by omega), mJ 53 (by omega)]
        exact chR_C h7 (fun k hk => cK _ (by omega) (by omega))
      · rw [cK 0 (by omega) (by omega), mJ 57 (by omega), mJ 58 (by omega), mJ 59 (by omega), mK 93 (by omega) (by omega), mK 94 (by omega) (by omega), mK 95 (by omega) (by omega)]
        exact ⟨h8.1, h8.2.imp id (fun z => ⟨z.1, chR_C z.2 (fun k hk => cK _ (by omega) (by omega))⟩)⟩
      · rw [cK 0 (by omega) (by omega), mJ 17 (by omega)]; exact h9
      · rw [cK 1 (by omega) (by omega), mK 73 (by omega) (by omega)]; exact h10
  · refine ans_v (r := -1) (v := -1) (C' := C) (M' := M1) ?_ ?_ h (fun _ _ => rfl) hs.2.2 rfl h0
    · rw [f2, if_neg (show ¬ nI f ≤ (680 : Int32) from nI_ge (a := 680) (by omega) (by omega))]
    · rw [y_lt, f3, show nI f + 20 = nI (f + 20) from nI_add f 20, if_neg (show ¬ nI (f + 20) ≤ (700 : Int32) from nI_ge (a := 700) (by omega) (by omega))]
end AC
