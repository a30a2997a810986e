/-! ===== functions of the cells: the words that they are written in, and how the small machine comes to them ===== -/
abbrev sm_MI : Type := Nat → Nat → Int32
abbrev sm_MJ : Type := Nat → Nat → Int64
def sd_lt {α β : Type} (e : α) (f : α → β) : β := f e
def sd_gu {α : Type} (c : Prop) [Decidable c] (x : Option α) : Option α := if c then x else none
def sd_q1 {α γ : Type} (o : Option α) (f : α → Option γ) : Option γ := match o with
  | none => none
  | some a => f a
def sd_q2 {α β γ : Type} (o : Option (α × β)) (f : α → β → Option γ) : Option γ := match o with
  | none => none
  | some (a, b) => f a b
def sd_q3 {α β δ γ : Type} (o : Option (α × β × δ)) (f : α → β → δ → Option γ) : Option γ := match o with
  | none => none
  | some (a, b, c) => f a b c
def sd_t1 {α γ : Type} (o : Option (α ⊕ Nat)) (f : α → Option γ) (g : Nat → Option γ) : Option γ := match o with
  | none => none
  | some (.inl a) => f a
  | some (.inr E) => g E
def sd_t2 {α β γ : Type} (o : Option ((α ⊕ Nat) × β)) (f : α → β → Option γ) (g : Nat → β → Option γ) : Option γ := match o with
  | none => none
  | some (.inl a, b) => f a b
  | some (.inr E, b) => g E b
def sd_fix {α : Type} (F : α → α) (z : α) : Nat → α
  | 0 => z
  | n + 1 => F (sd_fix F z n)
def sd_fu : Nat := 100000
def sd_up (I : sm_MI) (k a : Nat) (x : Int32) : sm_MI := va_up I k (upd (I k) a x)
def sd_upJ (J : sm_MJ) (k a : Nat) (x : Int64) : sm_MJ := va_up J k (vp_updL (J k) a x)
def sd_ush (x y : Int32) : Int32 := (x.toUInt32 >>> (y.toUInt32 &&& Int32.toUInt32 31)).toInt32
def sd_mod (x y : Int32) : Int32 := x - x / y * y
def sd_modJ (x y : Int64) : Int64 := x - x / y * y
noncomputable def sd_n (a : Nat) : Nat := (sm_sh.getD a (0, 0)).2
theorem sd_gu_go {α : Type} {c : Prop} [Decidable c] {x : Option α} {r : α} (h : sd_gu c x = some r) : c ∧ x = some r := by
  unfold sd_gu at h
  split at h
  · rename_i hc; exact ⟨hc, h⟩
  · cases h
theorem sd_q1_go {α γ : Type} {o : Option α} {f : α → Option γ} {r : γ} (h : sd_q1 o f = some r) : ∃ a, o = some a ∧ f a = some r := by
  cases o with
  | none => cases h
  | some a => exact ⟨a, rfl, h⟩
theorem sd_q2_go {α β γ : Type} {o : Option (α × β)} {f : α → β → Option γ} {r : γ} (h : sd_q2 o f = some r) : ∃ a b, o = some (a, b) ∧ f a b = some r := by
  cases o with
  | none => cases h
  | some a => exact ⟨a.1, a.2, rfl, h⟩
theorem sd_q3_go {α β δ γ : Type} {o : Option (α × β × δ)} {f : α → β → δ → Option γ} {r : γ} (h : sd_q3 o f = some r) : ∃ a b c, o = some (a, b, c) ∧ f a b c = some r := by
  cases o with
  | none => cases h
  | some a => exact ⟨a.1, a.2.1, a.2.2, rfl, h⟩
theorem sd_t1_go {α γ : Type} {o : Option (α ⊕ Nat)} {f : α → Option γ} {g : Nat → Option γ} {r : γ} (h : sd_t1 o f g = some r) : (∃ a, o = some (.inl a) ∧ f a = some r) ∨ (∃ E, o = some (.inr E) ∧ g E = some r) := by
  rcases o with _ | (a | E)
  · cases h
  · exact Or.inl ⟨a, rfl, h⟩
  · exact Or.inr ⟨E, rfl, h⟩
theorem sd_t2_go {α β γ : Type} {o : Option ((α ⊕ Nat) × β)} {f : α → β → Option γ} {g : Nat → β → Option γ} {r : γ} (h : sd_t2 o f g = some r) : (∃ a b, o = some (.inl a, b) ∧ f a b = some r) ∨ (∃ E b, o = some (.inr E, b) ∧ g E b = some r) := by
  rcases o with _ | ⟨a | E, b⟩
  · cases h
  · exact Or.inl ⟨a, b, rfl, h⟩
  · exact Or.inr ⟨E, b, rfl, h⟩
theorem sd_if_go {α : Type} {c : Prop} [Decidable c] {x y : Option α} {r : α} (h : (if c then x else y) = some r) : (c ∧ x = some r) ∨ (¬ c ∧ y = some r) := by
  split at h
  · rename_i hc; exact Or.inl ⟨hc, h⟩
  · rename_i hc; exact Or.inr ⟨hc, h⟩
def sd_sw (x lo : Int) : List Nat → Nat → Nat
  | [], d => d
  | t :: ts, d => if x = lo then t else sd_sw x (lo + 1) ts d
theorem sd_sw_eq {x lo : Int} {d : Nat} : ∀ {ts : List Nat}, sm_sw x lo ts d = sd_sw x lo ts d := by
  intro ts
  induction ts generalizing lo with
  | nil => unfold sm_sw; split <;> rfl
  | cons t ts ih =>
    rw [sd_sw, ← ih]
    unfold sm_sw
    by_cases h1 : x = lo
    · subst h1
      rw [if_neg (by omega), if_pos rfl, show (x - x).toNat = 0 by omega]
      rfl
    · rw [if_neg h1]
      by_cases h2 : x < lo
      · rw [if_pos h2, if_pos (by omega)]
      · rw [if_neg h2, if_neg (by omega), show (x - lo).toNat = (x - (lo + 1)).toNat + 1 by omega]
        rfl
section SDW
variable {sh : List (Nat × Nat)} {X : Nat × (Nat → Int32)} {call : sm_K} {me : sm_Me} {Q : sm_Q} {fr : sm_F} {M : sm_M}
theorem sm_W.runL {α ρ : Type} {f : α → Option ρ} {r : ρ} (hc : sm_mono call) (k : Nat) {G : Prop} {e : α} {fr' : α → sm_F} {M' : α → sm_M} (hr : sm_run sh X me k fr M = some (G, fr' e, M' e)) (h : sd_lt e f = some r) (hG : G)
    (kk : ∀ x, f x = some r → sm_W sh X call me Q (fr' x) (M' x)) : sm_W sh X call me Q fr M := sm_W.run hc k hr hG (kk e h)
theorem sm_W.iteD {c : Prop} [Decidable c] {ρ : Type} {A B : Option ρ} {r : ρ} {a b : Nat} {L : sm_L} {st : List Value} {n : Nat × Nat} (h : (if c then A else B) = some r) (ht : c → A = some r → sm_W sh X call me Q (a, L, st, n) M) (hf : ¬ c → B = some r → sm_W sh X call me Q (b, L, st, n) M) : sm_W sh X call me Q (if decide c = true then a else b, L, st, n) M := by
  by_cases hc : c
  · rw [if_pos hc] at h
    rw [if_pos (decide_eq_true hc)]
    exact ht hc h
  · rw [if_neg hc] at h
    rw [if_neg (by simpa using hc)]
    exact hf hc h
theorem sm_W.swS {x c : Int32} {lo : Int} {ρ : Type} {A B : Option ρ} {r : ρ} {t d : Nat} {ts : List Nat} {L : sm_L} {st : List Value} {n : Nat × Nat} (hc : c.toInt = lo) (h : (if x = c then A else B) = some r) (ht : A = some r → sm_W sh X call me Q (t, L, st, n) M)
    (hf : B = some r → sm_W sh X call me Q (sd_sw x.toInt (lo + 1) ts d, L, st, n) M) : sm_W sh X call me Q (sd_sw x.toInt lo (t :: ts) d, L, st, n) M := by
  rw [sd_sw]
  by_cases hx : x = c
  · rw [if_pos hx] at h
    rw [if_pos (by rw [hx]; exact hc)]
    exact ht h
  · rw [if_neg hx] at h
    rw [if_neg (fun z => hx (Int32.toInt_inj.mp (z.trans hc.symm)))]
    exact hf h
theorem sm_W.slS {x c : Int32} {k o : Int} {ρ : Type} {A B : Option ρ} {r : ρ} {t d : Nat} {ps : List (Int × Int)} {ts : List Nat} {L : sm_L} {st : List Value} {n : Nat × Nat} (hc : c.toInt = k) (h : (if x = c then A else B) = some r) (ht : A = some r → sm_W sh X call me Q (t, L, st, n) M)
    (hf : B = some r → sm_W sh X call me Q (sm_sl x.toInt d ps ts, L, st, n) M) : sm_W sh X call me Q (sm_sl x.toInt d ((k, o) :: ps) (t :: ts), L, st, n) M := by
  rw [sm_sl]
  by_cases hx : x = c
  · rw [if_pos hx] at h
    rw [if_pos (by rw [hx]; exact hc)]
    exact ht h
  · rw [if_neg hx] at h
    rw [if_neg (fun z => hx (Int32.toInt_inj.mp (z.trans hc.symm)))]
    exact hf h
theorem sm_W.cal (hc : sm_mono call) {y : Nat} {as : List Value} {fr' : sm_F} (e : sm_step sh X me fr M = some (none, .inr (.inl (y, as, fr')))) (h : call y as M (sm_af me.2.2.1 fr.1 Q (sm_W sh X call me Q) fr')) : sm_W sh X call me Q fr M := by
  refine sm_W.of hc ?_
  unfold sm_Pre
  rw [e]
  exact ⟨trivial, h⟩
end SDW
