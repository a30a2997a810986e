/-! ===== the law's valley ===== -/
def ok4 (v : Int32) (I2 : sm_MI) (r : Int32 ⊕ Nat) : Prop := match r with
  | .inl w => v = w ∧ I2 61 0 = 0
  | .inr E => E = 0 ∧ I2 61 0 = 1
theorem twoW {A : sA} {R : Nat → List Nat} {t d : Nat} {I : sm_MI} {J : sm_MJ} (h : Rel A R t I I) (hd : (t = 21 ∧ d = 41) ∨ (t = 41 ∧ d = 21)) (x : Int32) : ∃ k s I1 J1 v I2 J2 A' R', F_Law_valley d x I J = some (k, (s, I1), J1) ∧ F_Mo_valley x I1 J1 = some (v, I2, J2) ∧ Rel A' R' (if s then d else t) I2 I2 ∧ I2 61 0 = k ∧ (k = 0 → J2 96 0 = Int32.toInt64 v) := by
  obtain ⟨r, s, C', v, M', J', h1, h2, ⟨h3, h4, h5⟩, h6, A', R', h7⟩ := x_valley (J := J) h hd x
  have key : ∀ J1, ∃ v I2 J2 A' R', F_Mo_valley x C' J1 = some (v, I2, J2) ∧ Rel A' R' (if s then d else t) I2 I2 ∧ J2 96 0 = J1 96 0 ∧ ok4 v I2 r := by
    intro J1
    obtain ⟨r2, s2, C2, v2, M2, J2, g1, g2, ⟨g3, g4, g5⟩, g6, A2, R2, g7⟩ := x_valley (J := J1) (h.cM h3) hd x
    rw [h1] at g1
    cases g1
    exact ⟨v2, M2, J2, A2, R2, g2, g7.cC (fun k hk => g4 k hk), g5 96 0 (fun z => absurd z (by omega)), g6⟩
  unfold F_Law_valley
  rw [h1]
  rcases r with w | E
  · obtain ⟨v2, I2, J2, A2, R2, k1, k2, k3, k4, k5⟩ := key (sd_upJ J 96 0 (Int32.toInt64 w))
    refine ⟨0, s, C', _, v2, I2, J2, A2, R2, rfl, k1, k2, k5, fun _ => ?_⟩
    rw [k3, upJ_96, k4]
  · obtain ⟨v2, I2, J2, A2, R2, k1, k2, k3, k4, k5⟩ := key J
    subst k4
    exact ⟨1, s, C', J, v2, I2, J2, A2, R2, rfl, k1, k2, k5, fun z => absurd z (by decide)⟩
