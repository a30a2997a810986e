/-! ===== what the small machine comes to ===== -/
abbrev sm_Q : Type := (Option Value ⊕ Nat) → sm_M → Prop
abbrev sm_K : Type := Nat → List Value → sm_M → sm_Q → Prop
def sm_G (g : Option Prop) : Prop := match g with
  | none => True
  | some p => p
def sm_hd : List (Nat × Nat × Nat × Nat × Nat) → Nat → Nat → Option (Nat × Nat)
  | [], _, _ => none
  | (f, t, E', h, j) :: r, pc, E => bif Nat.ble f pc && Nat.blt pc t && Nat.beq E E' then some (h, j) else sm_hd r pc E
def sm_bk (fr : sm_F) (v : Option Value) : sm_F := match fr with
  | (pc, L, st, n) => (pc, L, v.toList ++ st, n)
def sm_ct (fr : sm_F) (h j : Nat) : sm_F := match fr with
  | (_, L, _, n) => (h, sm_st1 L j none, [], n)
/-- how a call comes back -/
def sm_af (hs : List (Nat × Nat × Nat × Nat × Nat)) (pc : Nat) (Q : sm_Q) (Y : sm_F → sm_M → Prop) (fr : sm_F) : sm_Q := fun r M => match r with
  | .inl v => Y (sm_bk fr v) M
  | .inr E => match sm_hd hs pc E with
    | some (h, j) => Y (sm_ct fr h j) M
    | none => hs = [] ∧ Q (.inr E) M
def sm_Pre (sh : List (Nat × Nat)) (X : Nat × (Nat → Int32)) (call : sm_K) (me : sm_Me) (Q : sm_Q) (Y : sm_F → sm_M → Prop) (fr : sm_F) (M : sm_M) : Prop :=
  match sm_step sh X me fr M with
  | none => False
  | some (g, .inl (fr', M')) => sm_G g ∧ Y fr' M'
  | some (g, .inr (.inl (y, as, fr'))) => sm_G g ∧ call y as M (sm_af me.2.2.1 fr.1 Q Y fr')
  | some (g, .inr (.inr (.inl v))) => sm_G g ∧ Q (.inl v) M
  | some (g, .inr (.inr (.inr E))) => sm_G g ∧ Q (.inr E) M
/-- fewer locals are known -/
def sm_sub : sm_L → sm_L → Prop
  | [], [] => True
  | none :: r, _ :: q => sm_sub r q
  | some v :: r, w :: q => w = some v ∧ sm_sub r q
  | _, _ => False
def sm_W (sh : List (Nat × Nat)) (X : Nat × (Nat → Int32)) (call : sm_K) (me : sm_Me) (Q : sm_Q) (fr : sm_F) (M : sm_M) : Prop :=
  ∀ Y : sm_F → sm_M → Prop, (∀ fr M, sm_Pre sh X call me Q Y fr M → Y fr M) → (∀ pc L L' st n M, sm_sub L' L → Y (pc, L', st, n) M → Y (pc, L, st, n) M) → Y fr M
def sm_ar : List Value → sm_L
  | [] => []
  | .long x :: r => some (.long x) :: none :: sm_ar r
  | .double x :: r => some (.double x) :: none :: sm_ar r
  | v :: r => some v :: sm_ar r
def sm_en (n : Nat) (as : List Value) : sm_L := sm_ar as ++ List.replicate (n - (sm_ar as).length) none
def sm_C (sh : List (Nat × Nat)) (X : Nat × (Nat → Int32)) (P : List sm_Me) : Nat → sm_K
  | 0, _, _, _, _ => False
  | d + 1, y, as, M, Q => match P[y]? with
    | none => False
    | some me => (sm_ar as).length ≤ me.2.2.2 ∧ sm_W sh X (sm_C sh X P d) me Q (0, sm_en me.2.2.2 as, [], 0, 0) M
def sm_mono (call : sm_K) : Prop := ∀ y as M (Q Q' : sm_Q), (∀ r M, Q r M → Q' r M) → call y as M Q → call y as M Q'
theorem sm_af_mono {hs : List (Nat × Nat × Nat × Nat × Nat)} {pc : Nat} {Q Q' : sm_Q} {Y Y' : sm_F → sm_M → Prop} {fr : sm_F} (hQ : ∀ r M, Q r M → Q' r M) (hY : ∀ fr M, Y fr M → Y' fr M) : ∀ r M, sm_af hs pc Q Y fr r M → sm_af hs pc Q' Y' fr r M := by
  intro r M h
  rcases r with v | E
  · exact hY _ _ h
  · simp only [sm_af] at h ⊢
    cases hh : sm_hd hs pc E with
    | none => rw [hh] at h; exact ⟨h.1, hQ _ _ h.2⟩
    | some q => rw [hh] at h; exact hY _ _ h
theorem sm_Pre_mono {sh : List (Nat × Nat)} {X : Nat × (Nat → Int32)} {call call' : sm_K} {me : sm_Me} {Q Q' : sm_Q} {Y Y' : sm_F → sm_M → Prop} {fr : sm_F} {M : sm_M} (hc : sm_mono call) (hcc : ∀ y as M Q, call y as M Q → call' y as M Q) (hQ : ∀ r M, Q r M → Q' r M) (hY : ∀ fr M, Y fr M → Y' fr M)
    (h : sm_Pre sh X call me Q Y fr M) : sm_Pre sh X call' me Q' Y' fr M := by
  unfold sm_Pre at h ⊢
  generalize sm_step sh X me fr M = o at h ⊢
  rcases o with _ | ⟨g, ⟨fr', M'⟩ | ⟨y, as, fr'⟩ | v | E⟩
  · exact h
  · exact ⟨h.1, hY _ _ h.2⟩
  · exact ⟨h.1, hcc _ _ _ _ (hc _ _ _ _ _ (sm_af_mono hQ hY) h.2)⟩
  · exact ⟨h.1, hQ _ _ h.2⟩
  · exact ⟨h.1, hQ _ _ h.2⟩
section SMW
variable {sh : List (Nat × Nat)} {X : Nat × (Nat → Int32)} {call : sm_K} {me : sm_Me} {Q : sm_Q} {fr : sm_F} {M : sm_M}
theorem sm_W.of (hc : sm_mono call) (h : sm_Pre sh X call me Q (sm_W sh X call me Q) fr M) : sm_W sh X call me Q fr M := by
  intro Y h1 h2
  exact h1 _ _ (sm_Pre_mono hc (fun _ _ _ _ h => h) (fun _ _ h => h) (fun fr M h => h Y h1 h2) h)
theorem sm_W.mono {Q' : sm_Q} {call' : sm_K} (hc : sm_mono call) (hcc : ∀ y as M Q, call y as M Q → call' y as M Q) (hQ : ∀ r M, Q r M → Q' r M) (h : sm_W sh X call me Q fr M) : sm_W sh X call' me Q' fr M := by
  intro Y h1 h2
  exact h Y (fun fr M h => h1 _ _ (sm_Pre_mono hc hcc hQ (fun _ _ h => h) h)) h2
theorem sm_W.forget {pc : Nat} {L L' : sm_L} {st : List Value} {n : Nat × Nat} (hs : sm_sub L' L) (h : sm_W sh X call me Q (pc, L', st, n) M) : sm_W sh X call me Q (pc, L, st, n) M := by
  intro Y h1 h2
  exact h2 _ _ _ _ _ _ hs (h Y h1 h2)
theorem sm_W.run (hc : sm_mono call) : ∀ (k : Nat) {fr fr' : sm_F} {M M' : sm_M} {G : Prop}, sm_run sh X me k fr M = some (G, fr', M') → G → sm_W sh X call me Q fr' M' → sm_W sh X call me Q fr M
  | 0, fr, fr', M, M', G, e, _, h => by
    cases e
    exact h
  | k + 1, fr, fr', M, M', G, e, hG, h => by
    refine sm_W.of hc ?_
    unfold sm_run at e
    unfold sm_Pre
    rcases hs : sm_step sh X me fr M with _ | ⟨g, ⟨f2, M2⟩ | r⟩
    · rw [hs] at e; cases e
    · rw [hs] at e
      dsimp only at e
      rcases hr : sm_run sh X me k f2 M2 with _ | ⟨G2, f3, M3⟩
      · rw [hr] at e; cases e
      · rw [hr] at e
        cases g with
        | none =>
          cases e
          exact ⟨trivial, sm_W.run hc k hr hG h⟩
        | some p =>
          cases e
          exact ⟨hG.1, sm_W.run hc k hr hG.2 h⟩
    · rw [hs] at e
      cases e
theorem sm_W.ite {c : Prop} [Decidable c] {a b : Nat} {L : sm_L} {st : List Value} {n : Nat × Nat} (ht : c → sm_W sh X call me Q (a, L, st, n) M) (hf : ¬ c → sm_W sh X call me Q (b, L, st, n) M) : sm_W sh X call me Q (if c then a else b, L, st, n) M := by
  by_cases h : c
  · rw [if_pos h]; exact ht h
  · rw [if_neg h]; exact hf h
theorem sm_W.cl (hc : sm_mono call) {y : Nat} {as : List Value} {pc : Nat} {L : sm_L} {st rest : List Value} {n n' : Nat × Nat} {Q' : sm_Q} (e : sm_step sh X me (pc, L, st, n) M = some (none, .inr (.inl (y, as, (pc + 1, L, rest, n'))))) (h : call y as M Q')
    (k : ∀ r M', Q' r M' → sm_af me.2.2.1 pc Q (sm_W sh X call me Q) (pc + 1, L, rest, n') r M') : sm_W sh X call me Q (pc, L, st, n) M := by
  refine sm_W.of hc ?_
  unfold sm_Pre
  rw [e]
  exact ⟨trivial, hc _ _ _ _ _ k h⟩
theorem sm_W.ret (hc : sm_mono call) {v : Option Value} (e : sm_step sh X me fr M = some (none, .inr (.inr (.inl v)))) (h : Q (.inl v) M) : sm_W sh X call me Q fr M := by
  refine sm_W.of hc ?_
  unfold sm_Pre
  rw [e]
  exact ⟨trivial, h⟩
theorem sm_W.thr (hc : sm_mono call) {E : Nat} (e : sm_step sh X me fr M = some (none, .inr (.inr (.inr E)))) (h : Q (.inr E) M) : sm_W sh X call me Q fr M := by
  refine sm_W.of hc ?_
  unfold sm_Pre
  rw [e]
  exact ⟨trivial, h⟩
end SMW
theorem sm_C_mono {sh : List (Nat × Nat)} {X : Nat × (Nat → Int32)} {P : List sm_Me} : ∀ d, sm_mono (sm_C sh X P d)
  | 0 => fun _ _ _ _ _ _ h => h
  | d + 1 => by
    intro y as M Q Q' hQ h
    unfold sm_C at h ⊢
    cases hP : P[y]? with
    | none => rw [hP] at h; exact h
    | some me => rw [hP] at h; exact ⟨h.1, sm_W.mono (sm_C_mono d) (fun _ _ _ _ h => h) hQ h.2⟩
theorem sm_C_succ {sh : List (Nat × Nat)} {X : Nat × (Nat → Int32)} {P : List sm_Me} : ∀ d y as M Q, sm_C sh X P d y as M Q → sm_C sh X P (d + 1) y as M Q
  | 0, _, _, _, _, h => h.elim
  | d + 1, y, as, M, Q, h => by
    rw [sm_C] at h ⊢
    cases hP : P[y]? with
    | none => rw [hP] at h; exact h
    | some me => rw [hP] at h; exact ⟨h.1, sm_W.mono (sm_C_mono d) (sm_C_succ d) (fun _ _ h => h) h.2⟩
theorem sm_C_le {sh : List (Nat × Nat)} {X : Nat × (Nat → Int32)} {P : List sm_Me} {d d' : Nat} (hd : d ≤ d') {y : Nat} {as : List Value} {M : sm_M} {Q : sm_Q} (h : sm_C sh X P d y as M Q) : sm_C sh X P d' y as M Q := by
  obtain ⟨k, rfl⟩ := Nat.le.dest hd
  clear hd
  induction k with
  | zero => exact h
  | succ k ih => exact sm_C_succ _ _ _ _ _ ih
theorem sm_C.of {sh : List (Nat × Nat)} {X : Nat × (Nat → Int32)} {P : List sm_Me} {d y : Nat} {me : sm_Me} {as : List Value} {M : sm_M} {Q : sm_Q} {L : sm_L} (hP : P[y]? = some me) (hn : Nat.ble (sm_ar as).length me.2.2.2 = true) (hL : sm_en me.2.2.2 as = L) (h : sm_W sh X (sm_C sh X P d) me Q (0, L, [], 0, 0) M) : sm_C sh X P (d + 1) y as M Q := by
  rw [sm_C, hP]
  exact ⟨Nat.le_of_ble_eq_true hn, by rw [hL]; exact h⟩
