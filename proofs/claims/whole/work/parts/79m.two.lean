/-! ===== the law: a call of the class, then one of the model ===== -/
def ok3 (v : Int32) (I2 : sm_MI) (w : Int32 ⊕ Int32) : Prop := match w with
  | .inl w => v = w ∧ I2 61 0 = 0
  | .inr e => I2 61 0 = e
def ok3J (v : Int64) (I2 : sm_MI) (w : Int64 ⊕ Int32) : Prop := match w with
  | .inl w => v = w ∧ I2 61 0 = 0
  | .inr e => I2 61 0 = e
section TW
variable {A : sA} {R : Nat → List Nat} {t : Nat} {C C' M M' I : sm_MI} {J : sm_MJ}
theorem Rel.cC (h : Rel A R t C M) (e' : ∀ k, k < 61 → C' k = C k) : Rel A R t C' M := by
  have ht := h.tt
  obtain ⟨⟨h1, h2, h3, h4, h5, h6⟩, h7, h8, h9, h10, h11, h12⟩ := h
  refine ⟨⟨h1, h2, cA_same h3 (fun k hk => e' _ (by omega)), ?_, h5, h6⟩, chR_C h7 (fun k hk => e' _ (by omega)), ?_, ?_, ?_, ?_, h12⟩
  · unfold rC
    rw [e' (t + 14 + 1) (by omega), e' (t + 14 + 2) (by omega), e' (t + 14 + 3) (by omega)]
    exact h4
  · rw [e' 0 (by omega)]
    exact ⟨h8.1, h8.2.imp id (fun z => ⟨z.1, chR_C z.2 (fun k hk => e' _ (by omega))⟩)⟩
  · rw [e' 0 (by omega)]; exact h9
  · rw [e' 1 (by omega)]; exact h10
  · rw [e' 4 (by omega), e' 5 (by omega)]; exact h11
theorem Rel.cM (h : Rel A R t C M) (e2 : ∀ k, 61 ≤ k → M' k = M k) : Rel A R t C M' := by
  obtain ⟨⟨h1, h2, h3, h4, h5, h6⟩, h7, h8, h9, h10, h11, h12⟩ := h
  have e1 : ∀ j, M' 61 j = M 61 j := fun j => by rw [e2 61 (by omega)]
  refine ⟨⟨h1, h2, h3, h4, mA_of h5 (e1 1) (e1 2) (e1 3) (fun k a b => e2 k (by omega)), ?_⟩, ?_, ?_, ?_, ?_, ?_, h12⟩
  · unfold rM
    rw [e2 70 (by omega), e2 71 (by omega)]
    exact h6
  · rw [e2 86 (by omega), e2 88 (by omega), e2 91 (by omega), e1 50, e1 53]
    exact h7
  · rw [e2 93 (by omega), e2 94 (by omega), e2 95 (by omega), e1 57, e1 58, e1 59]
    exact h8
  · rw [e1 17]; exact h9
  · rw [e2 73 (by omega)]; exact h10
  · rw [e2 72 (by omega), e1 15]; exact h11
theorem two0 {G : Option (Int32 × sm_MI)} {w : Int32 ⊕ Int32} (h : Rel A R t I I) (hq : mq G I w) : ∃ v I2, G = some (v, I2) ∧ Rel A R t I2 I2 ∧ ok3 v I2 w := by
  obtain ⟨v, M', h1, h2, h3⟩ := hq
  exact ⟨v, M', h1, (h.onM h2).cC h2.2.2, h3⟩
theorem two0J {G : Option (Int64 × sm_MI)} {w : Int64 ⊕ Int32} (h : Rel A R t I I) (hq : mqJ G I w) : ∃ v I2, G = some (v, I2) ∧ Rel A R t I2 I2 ∧ ok3J v I2 w := by
  obtain ⟨v, M', h1, h2, h3⟩ := hq
  exact ⟨v, M', h1, (h.onM h2).cC h2.2.2, h3⟩
theorem two1 {δ : Type} {F : Option (δ × sm_MI)} {G : sm_MI → Option (Int32 × sm_MI)} {f : δ → Int32 ⊕ Int32} (h : Rel A R t I I) (hq : ∀ M, Rel A R t I M → ∃ r C', F = some (r, C') ∧ csm t I C' ∧ mq (G M) M (f r)) : ∃ r C' v I2, F = some (r, C') ∧ G C' = some (v, I2) ∧ Rel A R t I2 I2 ∧ ok3 v I2 (f r) := by
  have ht := h.tt
  obtain ⟨r, C', h1, h2, -⟩ := hq I h
  have h3 : Rel A R t I C' := h.cM (fun k hk => h2 k (by omega) (by omega) (by omega) (by omega))
  obtain ⟨r2, C2, g1, g2, g3⟩ := hq C' h3
  rw [h1] at g1
  cases g1
  obtain ⟨v, M', k1, k2, k3⟩ := g3
  refine ⟨r, C', v, M', h1, k1, ?_, k3⟩
  exact ((h3.onC h2).onM k2).cC k2.2.2
theorem twoA {δ : Type} {F : Option (δ × sm_MI)} {G : sm_MI → Option (Int32 × sm_MI)} {f : δ → Int32 ⊕ Int32} (h : Rel A R t I I) (hq : ∀ M, Rel A R t I M → ans A R t I M F (G M) f) : ∃ r C' v I2, F = some (r, C') ∧ G C' = some (v, I2) ∧ Rel A R t I2 I2 ∧ ok3 v I2 (f r) := by
  obtain ⟨r, C', v, M', h1, h2, h3, h4, h5, h6⟩ := hq I h
  obtain ⟨r2, C2, v2, M2, g1, g2, g3, g4, g5, g6⟩ := hq C' (h.cM h4)
  rw [h1] at g1
  cases g1
  exact ⟨r, C', v2, M2, h1, g2, g3.cC (fun k hk => g5 k hk), g6⟩
theorem twoV {F : Option sm_MI} {G : sm_MI → Option sm_MI} (h : Rel A R t I I) (hq : ∀ M, Rel A R t I M → ansv A R t I M F (G M)) : ∃ C' I2, F = some C' ∧ G C' = some I2 ∧ Rel A R t I2 I2 := by
  obtain ⟨C', M', h1, h2, h3, h4, h5⟩ := hq I h
  obtain ⟨C2, M2, g1, g2, g3, g4, g5⟩ := hq C' (h.cM h4)
  rw [h1] at g1
  cases g1
  exact ⟨C', M2, h1, g2, g3.cC (fun k hk => g5 k hk)⟩
theorem upJ_96 {x : Int64} : sd_upJ J 96 0 x 96 0 = x := upJ_s
/-- a wrapper of the law: class unchanged, one exception -/
theorem wr0 {F : Option (Int32 ⊕ Nat)} {r : Int32 ⊕ Nat} (hF : F = some r) (hp : PE se1 F) : ∃ k J1, sd_t1 F (fun r1 => sd_gu (sm_in (0 : Int32) 1 = true) <| sd_lt (sd_upJ J 96 0 (Int32.toInt64 r1)) fun J3 => some ((0 : Int32), J3)) (fun r1 => if r1 = 1 then some ((1 : Int32), J) else none) = some (k, J1) ∧ ∀ v I2, ok3 v I2 (cv r) → I2 61 0 = k ∧ (k = 0 → J1 96 0 = Int32.toInt64 v) := by
  subst hF
  rcases r with w | E
  · refine ⟨0, sd_upJ J 96 0 (Int32.toInt64 w), rfl, fun v I2 h => ⟨h.2, fun _ => by rw [upJ_96, h.1]⟩⟩
  · cases (hp E rfl : E = 1)
    exact ⟨1, J, rfl, fun v I2 h => ⟨h, fun z => absurd z (by decide)⟩⟩
theorem wr0t {F : Option (Int32 ⊕ Nat)} {r : Int32 ⊕ Nat} (hF : F = some r) (hp : PE se2 F) : ∃ k J1, sd_t1 F (fun r1 => sd_gu (sm_in (0 : Int32) 1 = true) <| sd_lt (sd_upJ J 96 0 (Int32.toInt64 r1)) fun J3 => some ((0 : Int32), J3)) (fun r1 => if r1 = 1 then some ((1 : Int32), J) else if r1 = 0 then some ((2 : Int32), J) else none) = some (k, J1) ∧ ∀ v I2, ok3 v I2 (cv r) → I2 61 0 = k ∧ (k = 0 → J1 96 0 = Int32.toInt64 v) := by
  subst hF
  rcases r with w | E
  · refine ⟨0, sd_upJ J 96 0 (Int32.toInt64 w), rfl, fun v I2 h => ⟨h.2, fun _ => by rw [upJ_96, h.1]⟩⟩
  · rcases (hp E rfl : E = 0 ∨ E = 1) with rfl | rfl
    · exact ⟨2, J, rfl, fun v I2 h => ⟨h, fun z => absurd z (by decide)⟩⟩
    · exact ⟨1, J, rfl, fun v I2 h => ⟨h, fun z => absurd z (by decide)⟩⟩
theorem wr0J {F : Option (Int64 ⊕ Nat)} {r : Int64 ⊕ Nat} (hF : F = some r) (hp : PE se1 F) : ∃ k J1, sd_t1 F (fun r1 => sd_gu (sm_in (0 : Int32) 1 = true) <| sd_lt (sd_upJ J 96 0 r1) fun J3 => some ((0 : Int32), J3)) (fun r1 => if r1 = 1 then some ((1 : Int32), J) else none) = some (k, J1) ∧ ∀ v I2, ok3J v I2 (cvJ r) → I2 61 0 = k ∧ (k = 0 → J1 96 0 = v) := by
  subst hF
  rcases r with w | E
  · refine ⟨0, sd_upJ J 96 0 w, rfl, fun v I2 h => ⟨h.2, fun _ => by rw [upJ_96, h.1]⟩⟩
  · cases (hp E rfl : E = 1)
    exact ⟨1, J, rfl, fun v I2 h => ⟨h, fun z => absurd z (by decide)⟩⟩
theorem wr0Jt {F : Option (Int64 ⊕ Nat)} {r : Int64 ⊕ Nat} (hF : F = some r) (hp : PE se2 F) : ∃ k J1, sd_t1 F (fun r1 => sd_gu (sm_in (0 : Int32) 1 = true) <| sd_lt (sd_upJ J 96 0 r1) fun J3 => some ((0 : Int32), J3)) (fun r1 => if r1 = 1 then some ((1 : Int32), J) else if r1 = 0 then some ((2 : Int32), J) else none) = some (k, J1) ∧ ∀ v I2, ok3J v I2 (cvJ r) → I2 61 0 = k ∧ (k = 0 → J1 96 0 = v) := by
  subst hF
  rcases r with w | E
  · refine ⟨0, sd_upJ J 96 0 w, rfl, fun v I2 h => ⟨h.2, fun _ => by rw [upJ_96, h.1]⟩⟩
  · rcases (hp E rfl : E = 0 ∨ E = 1) with rfl | rfl
    · exact ⟨2, J, rfl, fun v I2 h => ⟨h, fun z => absurd z (by decide)⟩⟩
    · exact ⟨1, J, rfl, fun v I2 h => ⟨h, fun z => absurd z (by decide)⟩⟩
theorem wr1 {F : Option ((Int32 ⊕ Nat) × sm_MI)} {r : Int32 ⊕ Nat} (hF : F = some (r, C')) (hp : PD se1 F) : ∃ k J1, sd_t2 F (fun r1 I2 => sd_gu (sm_in (0 : Int32) 1 = true) <| sd_lt (sd_upJ J 96 0 (Int32.toInt64 r1)) fun J4 => some ((0 : Int32), I2, J4)) (fun r1 I2 => if r1 = 1 then some ((1 : Int32), I2, J) else none) = some (k, C', J1) ∧ ∀ v I2, ok3 v I2 (cv r) → I2 61 0 = k ∧ (k = 0 → J1 96 0 = Int32.toInt64 v) := by
  subst hF
  rcases r with w | E
  · refine ⟨0, sd_upJ J 96 0 (Int32.toInt64 w), rfl, fun v I2 h => ⟨h.2, fun _ => by rw [upJ_96, h.1]⟩⟩
  · cases (hp E C' rfl : E = 1)
    exact ⟨1, J, rfl, fun v I2 h => ⟨h, fun z => absurd z (by decide)⟩⟩
theorem wr1t {F : Option ((Int32 ⊕ Nat) × sm_MI)} {r : Int32 ⊕ Nat} (hF : F = some (r, C')) (hp : PD se2 F) : ∃ k J1, sd_t2 F (fun r1 I2 => sd_gu (sm_in (0 : Int32) 1 = true) <| sd_lt (sd_upJ J 96 0 (Int32.toInt64 r1)) fun J4 => some ((0 : Int32), I2, J4)) (fun r1 I2 => if r1 = 1 then some ((1 : Int32), I2, J) else if r1 = 0 then some ((2 : Int32), I2, J) else none) = some (k, C', J1) ∧ ∀ v I2, ok3 v I2 (cv r) → I2 61 0 = k ∧ (k = 0 → J1 96 0 = Int32.toInt64 v) := by
  subst hF
  rcases r with w | E
  · refine ⟨0, sd_upJ J 96 0 (Int32.toInt64 w), rfl, fun v I2 h => ⟨h.2, fun _ => by rw [upJ_96, h.1]⟩⟩
  · rcases (hp E C' rfl : E = 0 ∨ E = 1) with rfl | rfl
    · exact ⟨2, J, rfl, fun v I2 h => ⟨h, fun z => absurd z (by decide)⟩⟩
    · exact ⟨1, J, rfl, fun v I2 h => ⟨h, fun z => absurd z (by decide)⟩⟩
theorem wr1f {F : Option ((Int32 ⊕ Nat) × sm_MI)} {r : Int32 ⊕ Nat} (hF : F = some (r, C')) (hp : PD se0 F) : ∃ k J1, sd_t2 F (fun r1 I2 => sd_gu (sm_in (0 : Int32) 1 = true) <| sd_lt (sd_upJ J 96 0 (Int32.toInt64 r1)) fun J4 => some ((0 : Int32), I2, J4)) (fun r1 I2 => if r1 = 0 then some ((1 : Int32), I2, J) else none) = some (k, C', J1) ∧ ∀ v I2, ok3 v I2 (cv1 r) → I2 61 0 = k ∧ (k = 0 → J1 96 0 = Int32.toInt64 v) := by
  subst hF
  rcases r with w | E
  · refine ⟨0, sd_upJ J 96 0 (Int32.toInt64 w), rfl, fun v I2 h => ⟨h.2, fun _ => by rw [upJ_96, h.1]⟩⟩
  · cases (hp E C' rfl : E = 0)
    exact ⟨1, J, rfl, fun v I2 h => ⟨h, fun z => absurd z (by decide)⟩⟩
theorem wr1b {F : Option ((Int32 ⊕ Nat) × sm_MI)} {r : Int32 ⊕ Nat} (hF : F = some (r, C')) (hp : PD se1 F) : ∃ k J1, sd_t2 F (fun r1 I2 => if r1 = 0 then sd_gu (sm_in (0 : Int32) 1 = true) <| sd_lt (sd_upJ J 96 0 (0 : Int64)) fun J4 => some ((0 : Int32), I2, J4) else sd_gu (sm_in (0 : Int32) 1 = true) <| sd_lt (sd_upJ J 96 0 (1 : Int64)) fun J6 => some ((0 : Int32), I2, J6)) (fun r1 I2 => if r1 = 1 then some ((1 : Int32), I2, J) else none) = some (k, C', J1) ∧ ∀ v I2, ok3 v I2 (cv r) → I2 61 0 = k ∧ (k = 0 → J1 96 0 = if v = 0 then 0 else 1) := by
  subst hF
  rcases r with w | E
  · by_cases hw : w = 0
    · refine ⟨0, sd_upJ J 96 0 0, ?_, fun v I2 h => ⟨h.2, fun _ => by rw [upJ_96, h.1, if_pos hw]⟩⟩
      show (if w = 0 then _ else _) = _
      rw [if_pos hw]; rfl
    · refine ⟨0, sd_upJ J 96 0 1, ?_, fun v I2 h => ⟨h.2, fun _ => by rw [upJ_96, h.1, if_neg hw]⟩⟩
      show (if w = 0 then _ else _) = _
      rw [if_neg hw]; rfl
  · cases (hp E C' rfl : E = 1)
    exact ⟨1, J, rfl, fun v I2 h => ⟨h, fun z => absurd z (by decide)⟩⟩
end TW
section LS
variable {sh : List (Nat × Nat)} {X : Nat × (Nat → Int32)} {me : sm_Me} {pc nc ns i q a b c : Nat} {L : sm_L} {st : List Value} {M : sm_M} {t : List Nat}
theorem st_bif {p : Bool} {x : sm_O} (h : p = true) : (bif p then x else none) = x := by subst h; rfl
theorem st_cv (he : me.1[pc]? = some (.invokevirtual i, q, a, b, c + 4, t)) (h1 : Nat.ble b st.length = true) (h2 : Nat.ble ((st.drop b).map fun v => v.category).sum 8 = true) (h3 : nc + t.getD 0 0 ≤ me.2.1.1) (h4 : ns + t.getD 1 0 ≤ me.2.1.2) (h5 : sm_rcv sh (c + 4) (st.take b).reverse = true) :
    sm_step sh X me (pc, L, st, nc, ns) M = some (none, .inr (.inl (a, (st.take b).reverse, (pc + 1, L, st.drop b, nc + t.getD 0 0, ns + t.getD 1 0)))) := by
  show (match me.1[pc]? with
    | none => none
    | some e => sm_do sh X me.2.1 e pc L st nc ns M) = _
  rw [he]
  show (bif Nat.ble b st.length && Nat.ble ((st.drop b).map fun v => v.category).sum 8 && Nat.ble (nc + t.getD 0 0) me.2.1.1 && Nat.ble (ns + t.getD 1 0) me.2.1.2 && sm_rcv sh (c + 4) (st.take b).reverse then _ else none) = _
  refine st_bif ?_
  rw [h1, h2, h5, Nat.ble_eq_true_of_le h3, Nat.ble_eq_true_of_le h4]
  rfl
theorem st_cs (he : me.1[pc]? = some (.invokestatic i, q, a, b, 0, t)) (h1 : Nat.ble b st.length = true) (h2 : Nat.ble ((st.drop b).map fun v => v.category).sum 8 = true) (h3 : nc + t.getD 0 0 ≤ me.2.1.1) (h4 : ns + t.getD 1 0 ≤ me.2.1.2) :
    sm_step sh X me (pc, L, st, nc, ns) M = some (none, .inr (.inl (a, (st.take b).reverse, (pc + 1, L, st.drop b, nc + t.getD 0 0, ns + t.getD 1 0)))) := by
  show (match me.1[pc]? with
    | none => none
    | some e => sm_do sh X me.2.1 e pc L st nc ns M) = _
  rw [he]
  show (bif Nat.ble b st.length && Nat.ble ((st.drop b).map fun v => v.category).sum 8 && Nat.ble (nc + t.getD 0 0) me.2.1.1 && Nat.ble (ns + t.getD 1 0) me.2.1.2 && sm_rcv sh 0 (st.take b).reverse then _ else none) = _
  refine st_bif ?_
  rw [h1, h2, Nat.ble_eq_true_of_le h3, Nat.ble_eq_true_of_le h4]
  rfl
theorem st_rt (he : me.1[pc]? = some (.ireturn, q, 1, b, c, t)) {x : Int32} (h3 : nc ≤ me.2.1.1) (h4 : ns ≤ me.2.1.2) : sm_step sh X me (pc, L, [.int x], nc, ns) M = some (none, .inr (.inr (.inl (some (.int (vp_nar .boolean x)))))) := by
  show (match me.1[pc]? with
    | none => none
    | some e => sm_do sh X me.2.1 e pc L [.int x] nc ns M) = _
  rw [he]
  show (bif Nat.ble nc me.2.1.1 && Nat.ble ns me.2.1.2 then _ else none) = _
  refine st_bif ?_
  rw [Nat.ble_eq_true_of_le h3, Nat.ble_eq_true_of_le h4]
  rfl
end LS
theorem lg_self {x : Int64} : lg_cmp x x = 0 := by
  unfold lg_cmp
  rw [if_neg (fun z => (Int64.lt_irrefl) z), if_pos rfl]
