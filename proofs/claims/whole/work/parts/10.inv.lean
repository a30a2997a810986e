/-! ===== what a step of the small machine says, turned round ===== -/
def sm_post (call : sm_K) (hs : List (Nat × Nat × Nat × Nat × Nat)) (pc0 : Nat) (Q : sm_Q) (Y : sm_F → sm_M → Prop) (M0 : sm_M) (o : sm_O) : Prop := match o with
  | none => False
  | some (g, .inl (fr', M')) => sm_G g ∧ Y fr' M'
  | some (g, .inr (.inl (y, as, fr'))) => sm_G g ∧ call y as M0 (sm_af hs pc0 Q Y fr')
  | some (g, .inr (.inr (.inl v))) => sm_G g ∧ Q (.inl v) M0
  | some (g, .inr (.inr (.inr E))) => sm_G g ∧ Q (.inr E) M0
section SP
variable {call : sm_K} {hs : List (Nat × Nat × Nat × Nat × Nat)} {pc0 : Nat} {Q : sm_Q} {Y : sm_F → sm_M → Prop} {M0 M : sm_M} {pc : Nat} {L : sm_L} {st : List Value} {nc ns : Nat} {sh : List (Nat × Nat)} {X : Nat × (Nat → Int32)} {B : Nat × Nat} {a b c i : Nat}
theorem sp_go (h : sm_post call hs pc0 Q Y M0 (sm_go pc L st nc ns M)) : Y (pc, L, st, nc, ns) M := h.2
theorem sp_gd {g : Prop} (h : sm_post call hs pc0 Q Y M0 (sm_gd g pc L st nc ns M)) : g ∧ Y (pc, L, st, nc, ns) M := h
theorem sp_i1 {f : Int32 → Value} (h : sm_post call hs pc0 Q Y M0 (sm_i1 f pc L st nc ns M)) : ∃ x st', st = .int x :: st' ∧ Y (pc + 1, L, f x :: st', nc, ns) M := by
  unfold sm_i1 at h
  split at h
  · exact ⟨_, _, rfl, sp_go h⟩
  · exact h.elim
theorem sp_i2 {f : Int32 → Int32 → Int32} (h : sm_post call hs pc0 Q Y M0 (sm_i2 f pc L st nc ns M)) : ∃ x y st', st = .int y :: .int x :: st' ∧ Y (pc + 1, L, .int (f x y) :: st', nc, ns) M := by
  unfold sm_i2 at h
  split at h
  · exact ⟨_, _, _, rfl, sp_go h⟩
  · exact h.elim
theorem sp_i2g {f : Int32 → Int32 → Int32} (h : sm_post call hs pc0 Q Y M0 (sm_i2g f pc L st nc ns M)) : ∃ x y st', st = .int y :: .int x :: st' ∧ ¬ y = 0 ∧ Y (pc + 1, L, .int (f x y) :: st', nc, ns) M := by
  unfold sm_i2g at h
  split at h
  · exact ⟨_, _, _, rfl, sp_gd h⟩
  · exact h.elim
theorem sp_l2 {f : Int64 → Int64 → Value} (h : sm_post call hs pc0 Q Y M0 (sm_l2 f pc L st nc ns M)) : ∃ x y st', st = .long y :: .long x :: st' ∧ Y (pc + 1, L, f x y :: st', nc, ns) M := by
  unfold sm_l2 at h
  split at h
  · exact ⟨_, _, _, rfl, sp_go h⟩
  · exact h.elim
theorem sp_l2g {f : Int64 → Int64 → Int64} (h : sm_post call hs pc0 Q Y M0 (sm_l2g f pc L st nc ns M)) : ∃ x y st', st = .long y :: .long x :: st' ∧ ¬ y = 0 ∧ Y (pc + 1, L, .long (f x y) :: st', nc, ns) M := by
  unfold sm_l2g at h
  split at h
  · exact ⟨_, _, _, rfl, sp_gd h⟩
  · exact h.elim
theorem sp_b1 {f : Int32 → Bool} (h : sm_post call hs pc0 Q Y M0 (sm_b1 f a pc L st nc ns M)) : ∃ x st', st = .int x :: st' ∧ (f x = true → Y (a, L, st', nc, ns) M) ∧ (¬ f x = true → Y (pc + 1, L, st', nc, ns) M) := by
  unfold sm_b1 at h
  split at h
  · refine ⟨_, _, rfl, fun hc => ?_, fun hc => ?_⟩
    · have := sp_go h; rw [if_pos hc] at this; exact this
    · have := sp_go h; rw [if_neg hc] at this; exact this
  · exact h.elim
theorem sp_b2 {f : Int32 → Int32 → Bool} (h : sm_post call hs pc0 Q Y M0 (sm_b2 f a pc L st nc ns M)) : ∃ x y st', st = .int y :: .int x :: st' ∧ (f x y = true → Y (a, L, st', nc, ns) M) ∧ (¬ f x y = true → Y (pc + 1, L, st', nc, ns) M) := by
  unfold sm_b2 at h
  split at h
  · refine ⟨_, _, _, rfl, fun hc => ?_, fun hc => ?_⟩
    · have := sp_go h; rw [if_pos hc] at this; exact this
    · have := sp_go h; rw [if_neg hc] at this; exact this
  · exact h.elim
theorem sp_ldi (h : sm_post call hs pc0 Q Y M0 (sm_ldi i pc L st nc ns M)) : ∃ x, L[i]? = some (some (.int x)) ∧ Y (pc + 1, L, .int x :: st, nc, ns) M := by
  unfold sm_ldi at h
  split at h
  · rename_i x e
    exact ⟨x, e, sp_go h⟩
  · exact h.elim
theorem sp_ldl (h : sm_post call hs pc0 Q Y M0 (sm_ldl i pc L st nc ns M)) : ∃ x, L[i]? = some (some (.long x)) ∧ Y (pc + 1, L, .long x :: st, nc, ns) M := by
  unfold sm_ldl at h
  split at h
  · rename_i x e
    exact ⟨x, e, sp_go h⟩
  · exact h.elim
theorem sp_lda (h : sm_post call hs pc0 Q Y M0 (sm_lda i pc L st nc ns M)) : ∃ x, L[i]? = some (some (.ref x)) ∧ Y (pc + 1, L, .ref x :: st, nc, ns) M := by
  unfold sm_lda at h
  split at h
  · rename_i x e
    exact ⟨x, e, sp_go h⟩
  · exact h.elim
theorem sm_blt {m n : Nat} (h : Nat.blt m n = true) : m < n := Nat.le_of_ble_eq_true h
theorem sp_sti (h : sm_post call hs pc0 Q Y M0 (sm_sti i pc L st nc ns M)) : ∃ x st', st = .int x :: st' ∧ i < L.length ∧ Y (pc + 1, sm_st1 L i (some (.int x)), st', nc, ns) M := by
  unfold sm_sti at h
  split at h
  · cases hb : Nat.blt i L.length with
    | true => rw [hb] at h; exact ⟨_, _, rfl, sm_blt hb, sp_go h⟩
    | false => rw [hb] at h; exact h.elim
  · exact h.elim
theorem sp_sta (h : sm_post call hs pc0 Q Y M0 (sm_sta i pc L st nc ns M)) : ∃ x st', st = .ref x :: st' ∧ i < L.length ∧ Y (pc + 1, sm_st1 L i (some (.ref x)), st', nc, ns) M := by
  unfold sm_sta at h
  split at h
  · cases hb : Nat.blt i L.length with
    | true => rw [hb] at h; exact ⟨_, _, rfl, sm_blt hb, sp_go h⟩
    | false => rw [hb] at h; exact h.elim
  · exact h.elim
theorem sp_stl (h : sm_post call hs pc0 Q Y M0 (sm_stl i pc L st nc ns M)) : ∃ x st', st = .long x :: st' ∧ i + 1 < L.length ∧ Y (pc + 1, sm_st2 L i (some (.long x)), st', nc, ns) M := by
  unfold sm_stl at h
  split at h
  · cases hb : Nat.blt (i + 1) L.length with
    | true => rw [hb] at h; exact ⟨_, _, rfl, sm_blt hb, sp_go h⟩
    | false => rw [hb] at h; exact h.elim
  · exact h.elim
theorem sp_inc {n : Int} (h : sm_post call hs pc0 Q Y M0 (sm_inc i n pc L st nc ns M)) : ∃ x, L[i]? = some (some (.int x)) ∧ Y (pc + 1, sm_st1 L i (some (.int (x + Int32.ofInt n))), st, nc, ns) M := by
  unfold sm_inc at h
  split at h
  · rename_i x e
    exact ⟨x, e, sp_go h⟩
  · exact h.elim
theorem sp_gf {ρ : Nat → Nat} (h : sm_post call hs pc0 Q Y M0 (sm_gf sh a b c pc L st nc ns M)) (hb : b = 0 ∨ b = 1 ∨ b = 2 ∨ b = 3) : ∃ k N st' v, st = .ref k :: st' ∧ sh[k]? = some (c, N) ∧ sm_v ρ v = sm_f1 ρ M k a b ∧ Y (pc + 1, L, v :: st', nc, ns) M := by
  unfold sm_gf at h
  split at h
  · rename_i k st'
    split at h
    · rename_i ci N e
      cases hc : Nat.beq ci c && Nat.blt a N with
      | false => rw [hc] at h; exact h.elim
      | true =>
        rw [hc] at h
        simp only [Bool.and_eq_true] at hc
        have e1 : ci = c := Nat.eq_of_beq_eq_true hc.1
        subst e1
        rcases hb with rfl | rfl | rfl | rfl
        · exact ⟨k, N, st', .int (M.1 k a), rfl, e, rfl, sp_go h⟩
        · exact ⟨k, N, st', .int (M.1 k a), rfl, e, rfl, sp_go h⟩
        · exact ⟨k, N, st', .long (M.2.1 k a), rfl, e, rfl, sp_go h⟩
        · exact ⟨k, N, st', .ref (M.2.2 k a), rfl, e, rfl, sp_go h⟩
    · exact h.elim
  · exact h.elim
/-- a store of a field: what it stores, and what the cells hold then -/
def sm_wr (M : sm_M) (k a b : Nat) (v : Value) (M' : sm_M) : Prop :=
  (∃ x, v = .int x ∧ (b = 0 ∨ (b = 1 ∧ (x = 0 ∨ x = 1))) ∧ M' = (va_up M.1 k (upd (M.1 k) a x), M.2)) ∨ (∃ x, v = .long x ∧ b = 2 ∧ M' = (M.1, va_up M.2.1 k (vp_updL (M.2.1 k) a x), M.2.2)) ∨ (∃ q, v = .ref q ∧ b = 3 ∧ M' = (M.1, M.2.1, va_up M.2.2 k (va_up (M.2.2 k) a q)))
theorem sp_pf (h : sm_post call hs pc0 Q Y M0 (sm_pf sh a b c pc L st nc ns M)) : ∃ k N st' v M', st = v :: .ref k :: st' ∧ sh[k]? = some (c, N) ∧ sm_wr M k a b v M' ∧ Y (pc + 1, L, st', nc, ns) M' := by
  unfold sm_pf at h
  split at h
  · rename_i v k st'
    split at h
    · rename_i ci N e
      cases hc : Nat.beq ci c && Nat.blt a N with
      | false => rw [hc] at h; exact h.elim
      | true =>
        rw [hc] at h
        simp only [Bool.and_eq_true] at hc
        have e1 : ci = c := Nat.eq_of_beq_eq_true hc.1
        subst e1
        simp only [cond_true] at h
        split at h
        · rename_i x
          exact ⟨k, N, st', .int x, _, rfl, e, Or.inl ⟨x, rfl, Or.inl rfl, rfl⟩, sp_go h⟩
        · rename_i x
          cases hx : (x == 0 || x == 1) with
          | false => rw [hx] at h; exact h.elim
          | true =>
            rw [hx] at h
            simp only [Bool.or_eq_true, beq_iff_eq] at hx
            exact ⟨k, N, st', .int x, _, rfl, e, Or.inl ⟨x, rfl, Or.inr ⟨rfl, hx⟩, rfl⟩, sp_go h⟩
        · rename_i x
          exact ⟨k, N, st', .long x, _, rfl, e, Or.inr (Or.inl ⟨x, rfl, rfl, rfl⟩), sp_go h⟩
        · rename_i q
          exact ⟨k, N, st', .ref q, _, rfl, e, Or.inr (Or.inr ⟨q, rfl, rfl, rfl⟩), sp_go h⟩
        · exact h.elim
    · exact h.elim
  · exact h.elim
theorem sp_ald8 (h : sm_post call hs pc0 Q Y M0 (sm_ald sh X 8 pc L st nc ns M)) : ∃ i k st', st = .int i :: .ref k :: st' ∧ ((k = sm_SCR ∧ sm_in i X.1 = true ∧ Y (pc + 1, L, .int (X.2 i.toNatClampNeg) :: st', nc, ns) M) ∨ (∃ N, sh[k]? = some (8, N) ∧ sm_in i N = true ∧ Y (pc + 1, L, .int (M.1 k i.toNatClampNeg) :: st', nc, ns) M)) := by
  unfold sm_ald at h
  split at h
  · rename_i i k st'
    refine ⟨i, k, st', rfl, ?_⟩
    cases hc : Nat.beq k sm_SCR with
    | true =>
      rw [hc] at h
      exact Or.inl ⟨Nat.eq_of_beq_eq_true hc, sp_gd h⟩
    | false =>
      rw [hc] at h
      simp only [cond_false] at h
      split at h
      · rename_i ci N e
        cases hk : Nat.beq ci 8 with
        | false => rw [hk] at h; exact h.elim
        | true =>
          rw [hk] at h
          have e1 : ci = 8 := Nat.eq_of_beq_eq_true hk
          subst e1
          exact Or.inr ⟨N, e, sp_gd h⟩
      · exact h.elim
  · exact h.elim
theorem sp_ald9 (h : sm_post call hs pc0 Q Y M0 (sm_ald sh X 9 pc L st nc ns M)) : ∃ i k st' N, st = .int i :: .ref k :: st' ∧ sh[k]? = some (9, N) ∧ sm_in i N = true ∧ Y (pc + 1, L, .int (M.1 k i.toNatClampNeg) :: st', nc, ns) M := by
  unfold sm_ald at h
  split at h
  · rename_i i k st'
    cases hc : Nat.beq k sm_SCR with
    | true => rw [hc] at h; exact h.elim
    | false =>
      rw [hc] at h
      simp only [cond_false] at h
      split at h
      · rename_i ci N e
        cases hk : Nat.beq ci 9 with
        | false => rw [hk] at h; exact h.elim
        | true =>
          rw [hk] at h
          have e1 : ci = 9 := Nat.eq_of_beq_eq_true hk
          subst e1
          exact ⟨i, k, st', N, rfl, e, sp_gd h⟩
      · exact h.elim
  · exact h.elim
theorem sp_ald10 (h : sm_post call hs pc0 Q Y M0 (sm_ald sh X 10 pc L st nc ns M)) : ∃ i k st' N, st = .int i :: .ref k :: st' ∧ sh[k]? = some (10, N) ∧ sm_in i N = true ∧ Y (pc + 1, L, .long (M.2.1 k i.toNatClampNeg) :: st', nc, ns) M := by
  unfold sm_ald at h
  split at h
  · rename_i i k st'
    cases hc : Nat.beq k sm_SCR with
    | true => rw [hc] at h; exact h.elim
    | false =>
      rw [hc] at h
      simp only [cond_false] at h
      split at h
      · rename_i ci N e
        cases hk : Nat.beq ci 10 with
        | false => rw [hk] at h; exact h.elim
        | true =>
          rw [hk] at h
          have e1 : ci = 10 := Nat.eq_of_beq_eq_true hk
          subst e1
          exact ⟨i, k, st', N, rfl, e, sp_gd h⟩
      · exact h.elim
  · exact h.elim
theorem sp_ast8 (h : sm_post call hs pc0 Q Y M0 (sm_ast sh 8 pc L st nc ns M)) : ∃ x i k st' N, st = .int x :: .int i :: .ref k :: st' ∧ sh[k]? = some (8, N) ∧ sm_in i N = true ∧ Y (pc + 1, L, st', nc, ns) (va_up M.1 k (upd (M.1 k) i.toNatClampNeg x), M.2) := by
  unfold sm_ast at h
  split at h
  · rename_i v i k st'
    split at h
    · rename_i ci N e
      cases hk : Nat.beq ci 8 with
      | false => rw [hk] at h; exact h.elim
      | true =>
        rw [hk] at h
        have e1 : ci = 8 := Nat.eq_of_beq_eq_true hk
        subst e1
        cases v with
        | int x => exact ⟨x, i, k, st', N, rfl, e, sp_gd h⟩
        | _ => exact h.elim
    · exact h.elim
  · exact h.elim
theorem sp_ast9 (h : sm_post call hs pc0 Q Y M0 (sm_ast sh 9 pc L st nc ns M)) : ∃ x i k st' N, st = .int x :: .int i :: .ref k :: st' ∧ sh[k]? = some (9, N) ∧ sm_in i N = true ∧ Y (pc + 1, L, st', nc, ns) (va_up M.1 k (upd (M.1 k) i.toNatClampNeg (vp_nar .boolean x)), M.2) := by
  unfold sm_ast at h
  split at h
  · rename_i v i k st'
    split at h
    · rename_i ci N e
      cases hk : Nat.beq ci 9 with
      | false => rw [hk] at h; exact h.elim
      | true =>
        rw [hk] at h
        have e1 : ci = 9 := Nat.eq_of_beq_eq_true hk
        subst e1
        cases v with
        | int x => exact ⟨x, i, k, st', N, rfl, e, sp_gd h⟩
        | _ => exact h.elim
    · exact h.elim
  · exact h.elim
theorem sp_ast10 (h : sm_post call hs pc0 Q Y M0 (sm_ast sh 10 pc L st nc ns M)) : ∃ x i k st' N, st = .long x :: .int i :: .ref k :: st' ∧ sh[k]? = some (10, N) ∧ sm_in i N = true ∧ Y (pc + 1, L, st', nc, ns) (M.1, va_up M.2.1 k (vp_updL (M.2.1 k) i.toNatClampNeg x), M.2.2) := by
  unfold sm_ast at h
  split at h
  · rename_i v i k st'
    split at h
    · rename_i ci N e
      cases hk : Nat.beq ci 10 with
      | false => rw [hk] at h; exact h.elim
      | true =>
        rw [hk] at h
        have e1 : ci = 10 := Nat.eq_of_beq_eq_true hk
        subst e1
        cases v with
        | long x => exact ⟨x, i, k, st', N, rfl, e, sp_gd h⟩
        | _ => exact h.elim
    · exact h.elim
  · exact h.elim
theorem sp_len (h : sm_post call hs pc0 Q Y M0 (sm_len sh X pc L st nc ns M)) : ∃ k st', st = .ref k :: st' ∧ ((k = sm_SCR ∧ Y (pc + 1, L, .int (Int32.ofNat X.1) :: st', nc, ns) M) ∨ (∃ ci N, 8 ≤ ci ∧ sh[k]? = some (ci, N) ∧ Y (pc + 1, L, .int (Int32.ofNat N) :: st', nc, ns) M)) := by
  unfold sm_len at h
  split at h
  · rename_i k st'
    refine ⟨k, st', rfl, ?_⟩
    cases hc : Nat.beq k sm_SCR with
    | true =>
      rw [hc] at h
      exact Or.inl ⟨Nat.eq_of_beq_eq_true hc, sp_go h⟩
    | false =>
      rw [hc] at h
      simp only [cond_false] at h
      split at h
      · rename_i ci N e
        cases hk : Nat.ble 8 ci with
        | false => rw [hk] at h; exact h.elim
        | true =>
          rw [hk] at h
          exact Or.inr ⟨ci, N, Nat.le_of_ble_eq_true hk, e, sp_go h⟩
      · exact h.elim
  · exact h.elim
theorem sp_cp (h : sm_post call hs pc0 Q Y M0 (sm_cp sh pc L st nc ns M)) : ∃ n dp k1 sp k0 st' n0 n1, st = .int n :: .int dp :: .ref k1 :: .int sp :: .ref k0 :: st' ∧ sh[k0]? = some (8, n0) ∧ sh[k1]? = some (8, n1) ∧ (st'.map fun v => v.category).sum ≤ 8 ∧
    (¬ sp < 0 ∧ ¬ dp < 0 ∧ ¬ n < 0 ∧ sp.toNatClampNeg + n.toNatClampNeg ≤ n0 ∧ dp.toNatClampNeg + n.toNatClampNeg ≤ n1) ∧ Y (pc + 1, L, st', nc, ns) (va_up M.1 k1 (va_cpy (M.1 k0) (M.1 k1) sp.toNatClampNeg dp.toNatClampNeg n.toNatClampNeg), M.2) := by
  unfold sm_cp at h
  split at h
  · rename_i n dp k1 sp k0 st'
    split at h
    · rename_i c0 n0 c1 n1 e0 e1
      cases hk : Nat.beq c0 8 && Nat.beq c1 8 && Nat.ble (st'.map fun v => v.category).sum 8 with
      | false => rw [hk] at h; exact h.elim
      | true =>
        rw [hk] at h
        simp only [Bool.and_eq_true] at hk
        have z0 : c0 = 8 := Nat.eq_of_beq_eq_true hk.1.1
        have z1 : c1 = 8 := Nat.eq_of_beq_eq_true hk.1.2
        subst z0; subst z1
        exact ⟨n, dp, k1, sp, k0, st', n0, n1, rfl, e0, e1, Nat.le_of_ble_eq_true hk.2, sp_gd h⟩
    · exact h.elim
  · exact h.elim
end SP
