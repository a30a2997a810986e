/-! ===== tests, nots, the whole expression ===== -/
def YS (kq : Nat → Nat) (off nv x2 D k k' : Nat) (s : List Nat) : Prop := okq nv D s ∧ ∃ τ, τ ≤ 1 ∧ ql (kq k') τ < 4 ∧ ∀ bb m out W T rr, (bb = true → kq k ≠ 13) → T.length = x2 → wlv W < 4 → SYe kq off nv none k' (out ++ mcf off s) W (τ :: T) rr → SYe kq off nv (some (bb, m)) k out W (0 :: T) rr
def YF (kq : Nat → Nat) (off nv x2 k e k' : Nat) : Prop := (0 < e ∧ e < 10) ∧ ∀ bb m out W T, (bb = true → kq k ≠ 13) → T.length = x2 → wlv W < 4 → SYe kq off nv (some (bb, m)) k out W (0 :: T) (.inl (e, k'))
section RV
variable {b : Nat → Nat} {n p off nv u0 x2 D q : Nat} {kE : Nat → Int32 → sm_MI → Option (Int32 × sm_MI)}
theorem c_test (hp : p = 35 ∨ p = 55) (hF : sbc b n p off nv u0 (F_Reader_readSum p kE (nI x2)) (TS (kk b n) off nv x2 D 5) (TF (kk b n) off nv x2 5)) : sbc b n p off nv u0 (F_Reader_readTest p kE (nI x2)) (YS (kk b n) off nv x2 (D + 1)) (YF (kk b n) off nv x2) := by
  intro k st w C h
  obtain ⟨r, C1, f1, f2, f3⟩ := hF k st w C h
  unfold F_Reader_readTest
  rw [q2_of f1]
  rcases f3 with ⟨rfl, k1, s, g1, g2, g3, g4, g5⟩ | ⟨rfl, e, k1, g1, g2, g3⟩
  · have hlt := g1.1.lt (k := k1)
    have s60 := c_atS (x := 60) g1.2.1.2 hlt (by omega)
    have s61 := c_atS (x := 61) g1.2.1.2 hlt (by omega)
    rw [if_pos (by decide), q1_of (show F_Reader_atSign 60 C1 = _ from s60)]
    have q4 : ∀ κ τ, ql κ τ < 5 → ¬ (κ = 1060 ∨ κ = 1061) ∨ τ = 1 → ql κ τ < 4 := by
      intro κ τ h1 h2
      unfold ql at h1 ⊢
      by_cases z1 : κ = 1042 ∨ κ = 1047
      · rw [if_pos z1] at h1; omega
      rw [if_neg z1] at h1 ⊢
      by_cases z2 : κ = 1043 ∨ κ = 1045
      · rw [if_pos z2] at h1; omega
      rw [if_neg z2, if_neg (show ¬ ((κ = 1060 ∨ κ = 1061) ∧ τ = 0) by omega)]
      repeat (first | omega | split)
    by_cases e1 : kk b n k1 = 1060 ∨ kk b n k1 = 1061
    · obtain ⟨C2, t1, t2, t3⟩ := c_step hp g1 (by omega)
      obtain ⟨r, C3, v1, v2, v3⟩ := hF (k1 + 1) (st ++ s) (w + 1) C2 t2
      obtain ⟨c, mc, hc⟩ : ∃ c mc, (kk b n k1 = 1060 ∧ c = 20003 ∧ mc = 6 ∨ kk b n k1 = 1061 ∧ c = 20004 ∧ mc = 7) := by
        rcases e1 with z | z
        · exact ⟨20003, 6, Or.inl ⟨z, rfl, rfl⟩⟩
        · exact ⟨20004, 7, Or.inr ⟨z, rfl, rfl⟩⟩
      have mcc : mcf off [c] = [mc] := by rcases hc with ⟨-, rfl, rfl⟩ | ⟨-, rfl, rfl⟩ <;> rfl
      have mst : stg mc = 4 := by rcases hc with ⟨-, -, rfl⟩ | ⟨-, -, rfl⟩ <;> rfl
      have key : ∀ r3 : Int32, (r3 = if kk b n k1 = 1000 + 60 then 1 else 0) → F_Reader_readTest_19 p kE (nI x2) r3 C1 = sd_q1 (F_Rules_add p (nI c) C3) fun I1 => some (vp_nar .boolean r, I1) := by
        intro r3 hr3
        unfold F_Reader_readTest_19 F_Reader_readTest_32
        rw [q1_of t1, q2_of v1, hr3]
        rcases hc with ⟨z, rfl, rfl⟩ | ⟨z, rfl, rfl⟩
        · rw [if_pos (show kk b n k1 = 1000 + 60 from z), if_neg (show ¬ (1 : Int32) = 0 by decide)]; rfl
        · rw [if_neg (show ¬ kk b n k1 = 1000 + 60 by omega), if_pos (show (0 : Int32) = 0 from rfl)]; rfl
      have whole : (if ¬ (if kk b n k1 = 1000 + 60 then (1 : Int32) else 0) = 0 then F_Reader_readTest_19 p kE (nI x2) (if kk b n k1 = 1000 + 60 then 1 else 0) C1 else sd_q1 (F_Reader_atSign 61 C1) fun r4 => if ¬ r4 = 0 then F_Reader_readTest_19 p kE (nI x2) (if kk b n k1 = 1000 + 60 then 1 else 0) C1 else some (1, C1)) = sd_q1 (F_Rules_add p (nI c) C3) fun I1 => some (vp_nar .boolean r, I1) := by
        rw [key _ rfl, q1_of (show F_Reader_atSign 61 C1 = _ from s61)]
        rcases hc with ⟨z, -⟩ | ⟨z, -⟩
        · rw [if_pos (show kk b n k1 = 1000 + 60 from z), if_pos (by decide)]
        · rw [if_neg (show ¬ kk b n k1 = 1000 + 60 by omega), if_neg (sn_nn rfl), if_pos (show kk b n k1 = 1000 + 61 from z), if_pos (by decide)]
      rw [whole]
      rcases v3 with ⟨rfl, k2, t, y1, y2, y3, y4, y5⟩ | ⟨rfl, e, k2, y1, y2, y3⟩
      · obtain ⟨C4, a1, a2, a3⟩ := rd_add (c := c) hp y1
        rw [List.append_assoc, List.append_assoc, ← List.append_assoc s t [c]] at a2
        refine ⟨1, C4, by rw [q1_of a1, nar1], (((f2.trans t3).trans v2).trans a3), Or.inl ⟨rfl, k2, s ++ t ++ [c], a2, by omega, okq_op (okq_up g3 (by omega)) y3 (by omega), 1, by omega, q4 _ _ (y4 1) (Or.inr rfl), fun bb m out W T rr z1 z2 z3 z4 => ?_⟩⟩
        rw [mcf_app, mcf_app, mcc, ← List.append_assoc, ← List.append_assoc] at z4
        exact g5 bb m out W 0 T rr z1 z2 (by omega) (SYe.ls (c := mc) (by omega) z3 (y5 false 0 (out ++ mcf off s) (mc :: W) 1 T rr (fun z => by cases z) z2 (by show (if 14 ≤ mc then 0 else stg mc) < _; rw [if_neg (by omega)]; omega) (SYe.norm (by omega) (by have := y4 1; omega) z4)))
      · obtain ⟨C4, a1, a2, a3⟩ := c_addA (x := nI c) hp y1
        refine ⟨0, C4, by rw [q1_of a1, nar0], (((f2.trans t3).trans v2).trans a2), Or.inr ⟨rfl, e, k2, a3, y2, fun bb m out W T z1 z2 z3 => ?_⟩⟩
        exact g5 bb m out W 0 T _ z1 z2 (by omega) (SYe.ls (c := mc) (by omega) z3 (y3 false 0 (out ++ mcf off s) (mc :: W) 1 T (fun z => by cases z) z2 (by show (if 14 ≤ mc then 0 else stg mc) < _; rw [if_neg (by omega)]; omega)))
    · refine ⟨1, C1, ?_, f2, Or.inl ⟨rfl, k1, s, g1, g2, okq_up g3 (by omega), 0, by omega, q4 _ _ (g4 0) (Or.inl e1), fun bb m out W T rr z1 z2 z3 z4 => g5 bb m out W 0 T rr z1 z2 (by omega) z4⟩⟩
      rw [if_neg (show ¬ kk b n k1 = 1000 + 60 by omega), if_neg (sn_nn rfl), q1_of (show F_Reader_atSign 61 C1 = _ from s61), if_neg (show ¬ kk b n k1 = 1000 + 61 by omega), if_neg (sn_nn rfl)]
  · exact ⟨0, C1, by rw [if_neg (sn_nn rfl)], f2, Or.inr ⟨rfl, e, k1, g1, g2, fun bb m out W T z1 z2 z3 => g3 bb m out W 0 T z1 z2 (by omega)⟩⟩
theorem c_nots (hp : p = 35 ∨ p = 55) {k w m : Nat} (hm : m ≤ 6) : ∀ j i st C f, i + j = m → j < f → rd b n p off nv u0 k st (w + j) C → ∃ C', F_Reader_readNot_31 p kE f (nI m) 1 (nI i) C = some (1, C') ∧ csf p u0 C C' ∧ rd b n p off nv u0 k (st ++ List.replicate j 20002) w C' := by
  intro j
  induction j with
  | zero =>
    intro i st C f hi hf h
    obtain ⟨f, rfl⟩ : ∃ g, f = g + 1 := ⟨f - 1, by omega⟩
    refine ⟨C, ?_, csf.refl, by rw [List.replicate_zero, List.append_nil]; exact h⟩
    have hu : ∀ x, F_Reader_readNot_31 p kE (f + 1) (nI m) x (nI i) C = F_Reader_readNot_31B p kE (F_Reader_readNot_31 p kE f) (nI m) x (nI i) C := fun _ => rfl
    rw [hu]
    unfold F_Reader_readNot_31B
    rw [if_pos (nI_le (by omega) (by omega)), nar1]
  | succ j ih =>
    intro i st C f hi hf h
    obtain ⟨f, rfl⟩ : ∃ g, f = g + 1 := ⟨f - 1, by omega⟩
    obtain ⟨C1, a1, a2, a3⟩ := rd_add (c := 20002) hp (show rd b n p off nv u0 k st (w + j + 1) C from h)
    obtain ⟨C2, i1, i2, i3⟩ := ih (i + 1) (st ++ [20002]) C1 f (by omega) (by omega) a2
    refine ⟨C2, ?_, a3.trans i2, by rw [List.append_assoc] at i3; exact i3⟩
    have hu : ∀ x, F_Reader_readNot_31 p kE (f + 1) (nI m) x (nI i) C = F_Reader_readNot_31B p kE (F_Reader_readNot_31 p kE f) (nI m) x (nI i) C := fun _ => rfl
    rw [hu]
    unfold F_Reader_readNot_31B
    rw [if_neg (nI_ge (by omega) (by omega)), q1_of (show F_Rules_add p 20002 C = _ from a1), show nI i + 1 = nI (i + 1) from nI_add i 1]
    exact i1
theorem c_notsA (hp : p = 35 ∨ p = 55) {k m e : Nat} (hm : m ≤ 6) : ∀ j i C f, i + j = m → j < f → cft p u0 e k C → ∃ C', F_Reader_readNot_31 p kE f (nI m) 0 (nI i) C = some (0, C') ∧ csf p u0 C C' ∧ cft p u0 e k C' := by
  intro j
  induction j with
  | zero =>
    intro i C f hi hf h
    obtain ⟨f, rfl⟩ : ∃ g, f = g + 1 := ⟨f - 1, by omega⟩
    refine ⟨C, ?_, csf.refl, h⟩
    have hu : ∀ x, F_Reader_readNot_31 p kE (f + 1) (nI m) x (nI i) C = F_Reader_readNot_31B p kE (F_Reader_readNot_31 p kE f) (nI m) x (nI i) C := fun _ => rfl
    rw [hu]
    unfold F_Reader_readNot_31B
    rw [if_pos (nI_le (by omega) (by omega)), nar0]
  | succ j ih =>
    intro i C f hi hf h
    obtain ⟨f, rfl⟩ : ∃ g, f = g + 1 := ⟨f - 1, by omega⟩
    obtain ⟨C1, a1, a2, a3⟩ := c_addA (x := nI 20002) hp h
    obtain ⟨C2, i1, i2, i3⟩ := ih (i + 1) C1 f (by omega) (by omega) a3
    refine ⟨C2, ?_, a2.trans i2, i3⟩
    have hu : ∀ x, F_Reader_readNot_31 p kE (f + 1) (nI m) x (nI i) C = F_Reader_readNot_31B p kE (F_Reader_readNot_31 p kE f) (nI m) x (nI i) C := fun _ => rfl
    rw [hu]
    unfold F_Reader_readNot_31B
    rw [if_neg (nI_ge (by omega) (by omega)), q1_of (show F_Rules_add p 20002 C = _ from a1), show nI i + 1 = nI (i + 1) from nI_add i 1]
    exact i1
theorem okq_nos {s : List Nat} (h : okq nv D s) : ∀ m, okq nv D (s ++ List.replicate m 20002)
  | 0 => by rw [List.replicate_zero, List.append_nil]; exact h
  | m + 1 => by
    rw [List.replicate_succ', ← List.append_assoc]
    exact okq_no (okq_nos h m)
theorem wlv_nos {W : List Nat} (h : wlv W < 3) : ∀ m, wlv (List.replicate m 3 ++ W) < 4
  | 0 => by rw [List.replicate_zero, List.nil_append]; omega
  | m + 1 => by rw [List.replicate_succ]; show (if 14 ≤ 3 then 0 else stg 3) < 4; decide
theorem mcf_nos : ∀ m, mcf off (List.replicate m 20002) = List.replicate m 3
  | 0 => rfl
  | m + 1 => by
    rw [List.replicate_succ, List.replicate_succ]
    show mco off 20002 ++ mcf off (List.replicate m 20002) = _
    rw [mco_no, mcf_nos m]
    rfl
theorem SYe.nos {kq : Nat → Nat} {k τ : Nat} {W T : List Nat} {rr : rsx} (hq : ql (kq k) τ ≤ 3) : ∀ m out, SYe kq off nv none k (out ++ List.replicate m 3) W (τ :: T) rr → SYe kq off nv none k out (List.replicate m 3 ++ W) (τ :: T) rr
  | 0, out, h => by rw [List.replicate_zero, List.append_nil] at h; exact h
  | m + 1, out, h => by
    rw [List.replicate_succ] at h ⊢
    refine SYe.norm (by omega) hq (SYe.nos hq m (out ++ [3]) ?_)
    rw [List.append_assoc]
    exact h
theorem c_not (hp : p = 35 ∨ p = 55) (hF : sbc b n p off nv u0 (F_Reader_readTest p kE (nI x2)) (YS (kk b n) off nv x2 D) (YF (kk b n) off nv x2)) : sbc b n p off nv u0 (F_Reader_readNot p kE (nI x2)) (XS (kk b n) off nv x2 D 3) (XF (kk b n) off nv x2 3) := by
  have fin : ∀ m k st w C, m ≤ 6 → rd b n p off nv u0 k st (w + m) C → kk b n k ≠ 13 → ∃ r C', F_Reader_readNot_24 p kE (nI x2) (nI m) C = some (r, C') ∧ csf p u0 C C' ∧
      ((r = 1 ∧ ∃ k' s, rd b n p off nv u0 k' (st ++ s) w C' ∧ k < k' ∧ okq nv D s ∧ ∃ τ, τ ≤ 1 ∧ ql (kk b n k') τ < 3 ∧ ∀ out W T rr, T.length = x2 → wlv W < 3 → SYe (kk b n) off nv none k' (out ++ mcf off s) W (τ :: T) rr → SYe (kk b n) off nv (some (true, m)) k out (List.replicate m 3 ++ W) (0 :: T) rr) ∨
       (r = 0 ∧ ∃ e k', cft p u0 e k' C' ∧ (0 < e ∧ e < 10) ∧ ∀ out W T, T.length = x2 → wlv W < 3 → SYe (kk b n) off nv (some (true, m)) k out (List.replicate m 3 ++ W) (0 :: T) (.inl (e, k')))) := by
    intro m k st w C hm h hk
    obtain ⟨r, C1, f1, f2, f3⟩ := hF k st (w + m) C h
    unfold F_Reader_readNot_24
    rw [q2_of f1]
    rcases f3 with ⟨rfl, k1, s, g1, g2, g3, τ, g4, g5, g6⟩ | ⟨rfl, e, k1, g1, g2, g3⟩
    · obtain ⟨C2, n1, n2, n3⟩ := c_nots (kE := kE) hp hm m 0 (st ++ s) C1 sd_fu (by omega) (by rw [sd_fu_val]; omega) g1
      rw [List.append_assoc] at n3
      have ql3 : ql (kk b n k1) τ < 3 := by
        unfold ql at g5 ⊢
        by_cases z1 : kk b n k1 = 1042 ∨ kk b n k1 = 1047
        · rw [if_pos z1] at g5; omega
        rw [if_neg z1] at g5 ⊢
        by_cases z2 : kk b n k1 = 1043 ∨ kk b n k1 = 1045
        · rw [if_pos z2] at g5; omega
        rw [if_neg z2] at g5 ⊢
        by_cases z3 : (kk b n k1 = 1060 ∨ kk b n k1 = 1061) ∧ τ = 0
        · rw [if_pos z3] at g5; omega
        rw [if_neg z3]
        repeat (first | omega | split)
      refine ⟨1, C2, n1, f2.trans n2, Or.inl ⟨rfl, k1, s ++ List.replicate m 20002, n3, g2, okq_nos g3 m, τ, g4, ql3, fun out W T rr z2 z3 z4 => ?_⟩⟩
      rw [mcf_app, mcf_nos, ← List.append_assoc] at z4
      exact g6 true m out (List.replicate m 3 ++ W) T rr (fun _ => hk) z2 (wlv_nos z3 m) (SYe.nos (by omega) m _ z4)
    · obtain ⟨C2, n1, n2, n3⟩ := c_notsA (kE := kE) hp hm m 0 C1 sd_fu (by omega) (by rw [sd_fu_val]; omega) g1
      exact ⟨0, C2, n1, f2.trans n2, Or.inr ⟨rfl, e, k1, n3, g2, fun out W T z2 z3 => g3 true m out (List.replicate m 3 ++ W) T (fun _ => hk) z2 (wlv_nos z3 m)⟩⟩
  have go : ∀ j m k st w C f, m + j = 6 → j + 1 < f → rd b n p off nv u0 k st (w + m) C → ∃ r C', F_Reader_readNot_2 p kE f (nI x2) (nI m) C = some (r, C') ∧ csf p u0 C C' ∧
      ((r = 1 ∧ ∃ k' s, rd b n p off nv u0 k' (st ++ s) w C' ∧ k < k' ∧ okq nv D s ∧ ∃ τ, τ ≤ 1 ∧ ql (kk b n k') τ < 3 ∧ ∀ out W T rr, T.length = x2 → wlv W < 3 → SYe (kk b n) off nv none k' (out ++ mcf off s) W (τ :: T) rr → SYe (kk b n) off nv (some (true, m)) k out (List.replicate m 3 ++ W) (0 :: T) rr) ∨
       (r = 0 ∧ ∃ e k', cft p u0 e k' C' ∧ (0 < e ∧ e < 10) ∧ ∀ out W T, T.length = x2 → wlv W < 3 → SYe (kk b n) off nv (some (true, m)) k out (List.replicate m 3 ++ W) (0 :: T) (.inl (e, k')))) := by
    intro j
    induction j with
    | zero =>
      intro m k st w C f hm hf h
      obtain ⟨f, rfl⟩ : ∃ g, f = g + 1 := ⟨f - 1, by omega⟩
      obtain rfl : m = 6 := by omega
      have hlt := h.1.lt (k := k)
      have hu : F_Reader_readNot_2 p kE (f + 1) (nI x2) (nI 6) C = F_Reader_readNot_2B p kE (F_Reader_readNot_2 p kE f) (nI x2) (nI 6) C := rfl
      rw [hu]
      unfold F_Reader_readNot_2B F_Reader_readNot_13
      rw [if_pos (show (6 : Int32) ≤ nI 6 by decide), h.2.1.2]
      by_cases e : kk b n k = 13
      · obtain ⟨g1, g2⟩ := rd_fail (e := 2) hp h
        refine ⟨0, _, ?_, g2, Or.inr ⟨rfl, 2, k, g1, ⟨by omega, by omega⟩, fun out W T z2 z3 => SYe.nt6 e⟩⟩
        rw [e, if_neg (sn_nn (show nI 13 = 13 from rfl)), if_neg (sn_nn (show nI 6 = 6 from rfl)), q2_of (show F_Reader_fail 2 C = _ from c_fail (e := 2)), nar0]
      · rw [if_pos (show ¬ nI (kk b n k) = 13 from fun z => e ((nI_eq (b := 13) (by omega) (by omega)).mp z))]
        exact fin 6 k st w C (by omega) h e
    | succ j ih =>
      intro m k st w C f hm hf h
      obtain ⟨f, rfl⟩ : ∃ g, f = g + 1 := ⟨f - 1, by omega⟩
      have hlt := h.1.lt (k := k)
      have hu : F_Reader_readNot_2 p kE (f + 1) (nI x2) (nI m) C = F_Reader_readNot_2B p kE (F_Reader_readNot_2 p kE f) (nI x2) (nI m) C := rfl
      rw [hu]
      unfold F_Reader_readNot_2B F_Reader_readNot_13
      rw [if_neg (show ¬ (6 : Int32) ≤ nI m from nI_ge (b := 6) (by omega) (by omega)), h.2.1.2]
      by_cases e : kk b n k = 13
      · rw [if_neg (sn_nn (show nI (kk b n k) = 13 by rw [e]; rfl))]
        obtain ⟨C1, t1, t2, t3⟩ := c_step hp h (by omega)
        obtain ⟨r, C2, i1, i2, i3⟩ := ih (m + 1) (k + 1) st w C1 f (by omega) (by omega) (rd_w t2 (by omega))
        refine ⟨r, C2, by rw [q1_of t1, show nI m + 1 = nI (m + 1) from nI_add m 1]; exact i1, t3.trans i2, ?_⟩
        rcases i3 with ⟨rfl, k', s, y1, y2, y3, τ, y4, y5, y6⟩ | ⟨rfl, e', k', y1, y2, y3⟩
        · exact Or.inl ⟨rfl, k', s, y1, by omega, y3, τ, y4, y5, fun out W T rr z2 z3 z4 => SYe.nt e (by omega) (y6 out W T rr z2 z3 z4)⟩
        · exact Or.inr ⟨rfl, e', k', y1, y2, fun out W T z2 z3 => SYe.nt e (by omega) (y3 out W T z2 z3)⟩
      · rw [if_pos (show ¬ nI (kk b n k) = 13 from fun z => e ((nI_eq (b := 13) (by omega) (by omega)).mp z)), if_pos (show ¬ nI (kk b n k) = 13 from fun z => e ((nI_eq (b := 13) (by omega) (by omega)).mp z))]
        exact fin m k st w C (by omega) h e
  intro k st w C h
  exact go 6 0 k st w C sd_fu (by omega) (by rw [sd_fu_val]; omega) h
theorem c_and (hp : p = 35 ∨ p = 55) (hF : sbc b n p off nv u0 (F_Reader_readNot p kE (nI x2)) (XS (kk b n) off nv x2 D 3) (XF (kk b n) off nv x2 3)) : sbc b n p off nv u0 (F_Reader_readAnd p kE (nI x2)) (XS (kk b n) off nv x2 (D + 1) 2) (XF (kk b n) off nv x2 2) := by
  refine xs_level (L := fun f x3 x4 I => F_Reader_readAnd_7 p kE f (nI x2) x3 x4 I) hp (Or.inr rfl) hF (fun C => rfl) ?_ ?_ ?_
  · intro f i C hi
    show F_Reader_readAnd_7B p kE (F_Reader_readAnd_7 p kE f) (nI x2) 0 (nI i) C = _
    unfold F_Reader_readAnd_7B
    rw [if_pos (show (0 : Int32) = 0 from rfl), nar0, ite_self]
  · intro f i C κ hi h3 hκ hno
    have n7 := hno 20001
    unfold opx2 at n7
    show F_Reader_readAnd_7B p kE (F_Reader_readAnd_7 p kE f) (nI x2) 1 (nI i) C = _
    unfold F_Reader_readAnd_7B
    rw [if_neg (show ¬ (1 : Int32) = 0 by decide), h3, if_pos (show ¬ nI κ = 12 from fun z => by have := (nI_eq (b := 12) (by omega) (by omega)).mp z; omega), nar1, ite_self]
  · intro f i C κ c h3 hκ hop hi
    show F_Reader_readAnd_7B p kE (F_Reader_readAnd_7 p kE f) (nI x2) 1 (nI i) C = _
    unfold F_Reader_readAnd_7B
    rcases hop with ⟨-, rfl, rfl⟩ | ⟨z, -⟩
    · rw [if_neg (show ¬ (700 : Int32) ≤ nI i from nI_ge (b := 700) hi (by omega)), if_neg (show ¬ (1 : Int32) = 0 by decide), h3, if_neg (sn_nn (show nI 12 = 12 from rfl)), show nI i + 1 = nI (i + 1) from nI_add i 1]; rfl
    · omega
theorem c_expr1 (hp : p = 35 ∨ p = 55) (hx : x2 < 6) (hF : sbc b n p off nv u0 (F_Reader_readAnd p kE (nI x2)) (XS (kk b n) off nv x2 D 2) (XF (kk b n) off nv x2 2)) : sbc b n p off nv u0 (F_Reader_readExpr p kE (nI x2)) (XS (kk b n) off nv x2 (D + 1) 1) (XF (kk b n) off nv x2 1) := by
  refine xs_level (L := fun f x3 x4 I => F_Reader_readExpr_32 p kE f (nI x2) x3 x4 I) hp (Or.inl rfl) hF (fun C => ?_) ?_ ?_ ?_
  · unfold F_Reader_readExpr
    rw [if_pos (show nI x2 < 6 from nI_lt (b := 6) hx (by omega))]
  · intro f i C hi
    show F_Reader_readExpr_32B p kE (F_Reader_readExpr_32 p kE f) (nI x2) 0 (nI i) C = _
    unfold F_Reader_readExpr_32B
    rw [if_pos (show (0 : Int32) = 0 from rfl), nar0, ite_self]
  · intro f i C κ hi h3 hκ hno
    have n7 := hno 20000
    unfold opx2 at n7
    show F_Reader_readExpr_32B p kE (F_Reader_readExpr_32 p kE f) (nI x2) 1 (nI i) C = _
    unfold F_Reader_readExpr_32B
    rw [if_neg (show ¬ (1 : Int32) = 0 by decide), h3, if_pos (show ¬ nI κ = 11 from fun z => by have := (nI_eq (b := 11) (by omega) (by omega)).mp z; omega), nar1, ite_self]
  · intro f i C κ c h3 hκ hop hi
    show F_Reader_readExpr_32B p kE (F_Reader_readExpr_32 p kE f) (nI x2) 1 (nI i) C = _
    unfold F_Reader_readExpr_32B
    rcases hop with ⟨z, -⟩ | ⟨-, rfl, rfl⟩
    · omega
    · rw [if_neg (show ¬ (700 : Int32) ≤ nI i from nI_ge (b := 700) hi (by omega)), if_neg (show ¬ (1 : Int32) = 0 by decide), h3, if_neg (sn_nn (show nI 11 = 11 from rfl)), show nI i + 1 = nI (i + 1) from nI_add i 1]; rfl
theorem c_expr6 {g κ : Nat} {C : sm_MI} (h : C 3 2 = nI κ) (hκ : κ < 20000) : E_readExpr (g + 1) p (nI 6) C = some (0, sd_up C 3 7 (nI (if κ < 25 ∨ κ = 31 ∨ κ = 1040 ∨ 10000 ≤ κ then 2 else 1))) := by
  show F_Reader_readExpr p (E_readExpr g) (nI 6) C = _
  have s40 := c_atS (x := 40) h hκ (by omega)
  have an : F_Reader_atNumber C = some (if κ = 31 ∨ 10000 ≤ κ then 1 else 0) := by
    unfold F_Reader_atNumber
    rw [h]
    by_cases e1 : 10000 ≤ κ
    · rw [if_pos (show (10000 : Int32) ≤ nI κ from nI_le (a := 10000) e1 (by omega)), if_pos (Or.inr e1)]
    · rw [if_neg (show ¬ (10000 : Int32) ≤ nI κ from nI_ge (b := 10000) (by omega) (by omega))]
      by_cases e2 : κ = 31
      · rw [if_pos (Or.inl e2), e2, if_neg (sn_nn (show nI 31 = 31 from rfl))]
      · rw [if_neg (show ¬ (κ = 31 ∨ 10000 ≤ κ) by omega), if_pos (show ¬ nI κ = 31 from fun z => e2 ((nI_eq (b := 31) (by omega) (by omega)).mp z))]
  have aw : F_Reader_atWord C = some (if κ < 25 then 1 else 0) := by
    unfold F_Reader_atWord
    rw [h, if_neg (nI_pos (by omega))]
    by_cases e1 : κ < 25
    · rw [if_pos e1, if_neg (show ¬ (24 : Int32) < nI κ from nI_nlt (a := 24) (by omega) (by omega))]
    · rw [if_neg e1, if_pos (show (24 : Int32) < nI κ from nI_lt (a := 24) (by omega) (by omega))]
  unfold F_Reader_readExpr F_Reader_readExpr_16 F_Reader_readExpr_23
  rw [if_neg (show ¬ nI 6 < 6 by decide), q1_of an]
  by_cases e1 : κ = 31 ∨ 10000 ≤ κ
  · rw [if_pos e1, if_pos (by decide), if_neg (by decide), if_pos (show κ < 25 ∨ κ = 31 ∨ κ = 1040 ∨ 10000 ≤ κ by omega), q2_of (show F_Reader_fail 2 C = _ from c_fail (e := 2)), nar0]
  · rw [if_neg e1, if_neg (sn_nn rfl), q1_of aw]
    by_cases e2 : κ < 25
    · rw [if_pos e2, if_pos (by decide), if_neg (by decide), if_pos (Or.inl e2), q2_of (show F_Reader_fail 2 C = _ from c_fail (e := 2)), nar0]
    · rw [if_neg e2, if_neg (sn_nn rfl), q1_of (show F_Reader_atSign 40 C = _ from s40)]
      by_cases e3 : κ = 1040
      · rw [if_pos (show κ = 1000 + 40 from e3), if_neg (by decide), if_neg (by decide), if_pos (show κ < 25 ∨ κ = 31 ∨ κ = 1040 ∨ 10000 ≤ κ by omega), q2_of (show F_Reader_fail 2 C = _ from c_fail (e := 2)), nar0]
      · rw [if_neg (show ¬ κ = 1000 + 40 from e3), if_pos rfl, if_pos rfl, if_neg (show ¬ (κ < 25 ∨ κ = 31 ∨ κ = 1040 ∨ 10000 ≤ κ) by omega), q2_of (show F_Reader_fail 1 C = _ from c_fail (e := 1)), nar0]
theorem c_expr (hp : p = 35 ∨ p = 55) (ho : (off = 0 ∧ nv = 6) ∨ (off = 6 ∧ nv = 4)) : ∀ j x2 g, x2 + j = 5 → j + 2 ≤ g → sbc b n p off nv u0 (E_readExpr g p (nI x2)) (XS (kk b n) off nv x2 (5 * j + 6) 1) (XF (kk b n) off nv x2 1)
  | 0, x2, g, hx, hg => by
    obtain ⟨g, rfl⟩ : ∃ h, g = h + 1 + 1 := ⟨g - 2, by omega⟩
    have t := c_rterm (D := 1) (kE := E_readExpr (g + 1)) (u0 := u0) (b := b) (n := n) hp ho (show x2 < 6 by omega) (by omega) (fun z => absurd z (by omega)) (fun _ C κ h1 h2 => c_expr6 h1 h2)
    exact c_expr1 hp (by omega) (c_and hp (c_not hp (c_test hp (c_sum hp (c_prod hp t)))))
  | j + 1, x2, g, hx, hg => by
    obtain ⟨g, rfl⟩ : ∃ h, g = h + 1 := ⟨g - 1, by omega⟩
    have ih := c_expr hp ho j (x2 + 1) g (by omega) (by omega)
    have t := c_rterm (D := 5 * j + 6) (kE := E_readExpr g) (u0 := u0) (b := b) (n := n) hp ho (show x2 < 6 by omega) (by omega) (fun _ => ih) (fun z => absurd z (by omega))
    exact c_expr1 hp (by omega) (c_and hp (c_not hp (c_test hp (c_sum hp (c_prod hp t)))))
end RV
