/-! ===== what is thrown ===== -/
def PE {α : Type} (S : Nat → Prop) (o : Option (α ⊕ Nat)) : Prop := ∀ E, o = some (.inr E) → S E
def PD {α β : Type} (S : Nat → Prop) (o : Option ((α ⊕ Nat) × β)) : Prop := ∀ E b, o = some (.inr E, b) → S E
def se1 (E : Nat) : Prop := E = 1
def se0 (E : Nat) : Prop := E = 0
def se2 (E : Nat) : Prop := E = 0 ∨ E = 1
theorem s1_1 : se1 1 := rfl
theorem s0_0 : se0 0 := rfl
theorem s2_0 : se2 0 := Or.inl rfl
theorem s2_1 : se2 1 := Or.inr rfl
theorem s1_s2 : ∀ e, se1 e → se2 e := fun _ h => Or.inr h
theorem s0_s2 : ∀ e, se0 e → se2 e := fun _ h => Or.inl h
theorem s_id {S : Nat → Prop} : ∀ e, S e → S e := fun _ h => h
theorem PE.inl {α : Type} {S : Nat → Prop} {v : α} : PE S (some (Sum.inl v) : Option ((α ⊕ Nat))) := by intro E h; cases h
theorem PE.inr {α : Type} {S : Nat → Prop} {e : Nat} (he : S e) : PE S (some (Sum.inr e) : Option ((α ⊕ Nat))) := by intro E h; cases h; exact he
theorem PE.none {α : Type} {S : Nat → Prop} : PE S (none : Option ((α ⊕ Nat))) := by intro E h; cases h
theorem PE.ite {α : Type} {S : Nat → Prop} {c : Prop} [Decidable c] {x y : Option ((α ⊕ Nat))} (h1 : PE S x) (h2 : PE S y) : PE S (if c then x else y) := by split; exact h1; exact h2
theorem PE.lt {α : Type} {S : Nat → Prop} {γ : Type} {e : γ} {f : γ → Option ((α ⊕ Nat))} (h : ∀ x, PE S (f x)) : PE S (sd_lt e f) := h e
theorem PE.gu {α : Type} {S : Nat → Prop} {c : Prop} [Decidable c] {x : Option ((α ⊕ Nat))} (h1 : PE S x) : PE S (sd_gu c x) := by unfold sd_gu; split; exact h1; exact PE.none
theorem PE.q1 {α : Type} {S : Nat → Prop} {γ : Type} {q : Option γ} {f : γ → Option ((α ⊕ Nat))} (h : ∀ x, PE S (f x)) : PE S (sd_q1 q f) := by cases q with
  | none => exact PE.none
  | some a => exact h a
theorem PE.q2 {α : Type} {S : Nat → Prop} {γ δ : Type} {q : Option (γ × δ)} {f : γ → δ → Option ((α ⊕ Nat))} (h : ∀ x y, PE S (f x y)) : PE S (sd_q2 q f) := by cases q with
  | none => exact PE.none
  | some a => exact h a.1 a.2
theorem PE.t1 {α : Type} {S : Nat → Prop} {γ : Type} {q : Option (γ ⊕ Nat)} {f : γ → Option ((α ⊕ Nat))} {g : Nat → Option ((α ⊕ Nat))} (hq : PE S q) (h : ∀ x, PE S (f x)) (hg : ∀ e, S e → PE S (g e)) : PE S (sd_t1 q f g) := by
  rcases q with _ | (a | e)
  · exact PE.none
  · exact h a
  · exact hg e (hq e rfl)
theorem PD.inl {α : Type} {β : Type} {S : Nat → Prop} {v : α} {b : β} : PD S (some (Sum.inl v, b) : Option ((α ⊕ Nat) × β)) := by intro E b2 h; cases h
theorem PD.inr {α : Type} {β : Type} {S : Nat → Prop} {e : Nat} {b : β} (he : S e) : PD S (some (Sum.inr e, b) : Option ((α ⊕ Nat) × β)) := by intro E b2 h; cases h; exact he
theorem PD.none {α : Type} {β : Type} {S : Nat → Prop} : PD S (none : Option ((α ⊕ Nat) × β)) := by intro E b h; cases h
theorem PD.ite {α : Type} {β : Type} {S : Nat → Prop} {c : Prop} [Decidable c] {x y : Option ((α ⊕ Nat) × β)} (h1 : PD S x) (h2 : PD S y) : PD S (if c then x else y) := by split; exact h1; exact h2
theorem PD.lt {α : Type} {β : Type} {S : Nat → Prop} {γ : Type} {e : γ} {f : γ → Option ((α ⊕ Nat) × β)} (h : ∀ x, PD S (f x)) : PD S (sd_lt e f) := h e
theorem PD.gu {α : Type} {β : Type} {S : Nat → Prop} {c : Prop} [Decidable c] {x : Option ((α ⊕ Nat) × β)} (h1 : PD S x) : PD S (sd_gu c x) := by unfold sd_gu; split; exact h1; exact PD.none
theorem PD.q1 {α : Type} {β : Type} {S : Nat → Prop} {γ : Type} {q : Option γ} {f : γ → Option ((α ⊕ Nat) × β)} (h : ∀ x, PD S (f x)) : PD S (sd_q1 q f) := by cases q with
  | none => exact PD.none
  | some a => exact h a
theorem PD.q2 {α : Type} {β : Type} {S : Nat → Prop} {γ δ : Type} {q : Option (γ × δ)} {f : γ → δ → Option ((α ⊕ Nat) × β)} (h : ∀ x y, PD S (f x y)) : PD S (sd_q2 q f) := by cases q with
  | none => exact PD.none
  | some a => exact h a.1 a.2
theorem PD.t1 {α : Type} {β : Type} {S : Nat → Prop} {γ : Type} {q : Option (γ ⊕ Nat)} {f : γ → Option ((α ⊕ Nat) × β)} {g : Nat → Option ((α ⊕ Nat) × β)} (hq : PE S q) (h : ∀ x, PD S (f x)) (hg : ∀ e, S e → PD S (g e)) : PD S (sd_t1 q f g) := by
  rcases q with _ | (a | e)
  · exact PD.none
  · exact h a
  · exact hg e (hq e rfl)
theorem PE.up {α : Type} {S S' : Nat → Prop} {o : Option (α ⊕ Nat)} (h : PE S o) (hs : ∀ e, S e → S' e) : PE S' o := fun e he => hs e (h e he)
theorem P_VM_count {t : Nat} {x1 : Int32} {I : sm_MI} : PE se1 (F_VM_count t x1 I) := by
  unfold F_VM_count
  repeat (first | (with_reducible exact PE.inl) | (with_reducible exact PE.none) | (with_reducible exact PE.inr s1_1) | (with_reducible exact PE.inr s0_0) | (with_reducible exact PE.inr s2_0) | (with_reducible exact PE.inr s2_1) | (with_reducible exact PE.inr (by assumption)) | (with_reducible refine PE.ite ?_ ?_) | (with_reducible refine PE.lt (fun _ => ?_)) | (with_reducible refine PE.gu ?_) | (with_reducible refine PE.q1 (fun _ => ?_)) | (with_reducible refine PE.q2 (fun _ _ => ?_)) | (with_reducible assumption))
theorem P_VM_checkSinger {t : Nat} {x1 : Int32} {I : sm_MI} : PE se1 (F_VM_checkSinger t x1 I) := by
  unfold F_VM_checkSinger
  repeat (first | (with_reducible exact PE.inl) | (with_reducible exact PE.none) | (with_reducible exact PE.inr s1_1) | (with_reducible exact PE.inr s0_0) | (with_reducible exact PE.inr s2_0) | (with_reducible exact PE.inr s2_1) | (with_reducible exact PE.inr (by assumption)) | (with_reducible refine PE.ite ?_ ?_) | (with_reducible refine PE.lt (fun _ => ?_)) | (with_reducible refine PE.gu ?_) | (with_reducible refine PE.q1 (fun _ => ?_)) | (with_reducible refine PE.q2 (fun _ _ => ?_)) | (with_reducible assumption))
theorem P_VM_singer {t : Nat} {x1 : Int32} {x2 : Int32} {I : sm_MI} : PE se1 (F_VM_singer t x1 x2 I) := by
  unfold F_VM_singer
  repeat (first | (with_reducible exact PE.inl) | (with_reducible exact PE.none) | (with_reducible exact PE.inr s1_1) | (with_reducible exact PE.inr s0_0) | (with_reducible exact PE.inr s2_0) | (with_reducible exact PE.inr s2_1) | (with_reducible exact PE.inr (by assumption)) | (with_reducible refine PE.ite ?_ ?_) | (with_reducible refine PE.lt (fun _ => ?_)) | (with_reducible refine PE.gu ?_) | (with_reducible refine PE.q1 (fun _ => ?_)) | (with_reducible refine PE.q2 (fun _ _ => ?_)) | (with_reducible refine PE.t1 (P_VM_checkSinger.up (by first | exact s_id | exact s1_s2 | exact s0_s2)) (fun _ => ?_) (fun e he => ?_)) | (with_reducible assumption))
theorem P_VM_checkPiece {t : Nat} {x1 : Int32} {I : sm_MI} : PE se1 (F_VM_checkPiece t x1 I) := by
  unfold F_VM_checkPiece
  repeat (first | (with_reducible exact PE.inl) | (with_reducible exact PE.none) | (with_reducible exact PE.inr s1_1) | (with_reducible exact PE.inr s0_0) | (with_reducible exact PE.inr s2_0) | (with_reducible exact PE.inr s2_1) | (with_reducible exact PE.inr (by assumption)) | (with_reducible refine PE.ite ?_ ?_) | (with_reducible refine PE.lt (fun _ => ?_)) | (with_reducible refine PE.gu ?_) | (with_reducible refine PE.q1 (fun _ => ?_)) | (with_reducible refine PE.q2 (fun _ _ => ?_)) | (with_reducible assumption))
theorem P_VM_checkPart {x1 : Int32} : PE se1 (F_VM_checkPart x1) := by
  unfold F_VM_checkPart
  repeat (first | (with_reducible exact PE.inl) | (with_reducible exact PE.none) | (with_reducible exact PE.inr s1_1) | (with_reducible exact PE.inr s0_0) | (with_reducible exact PE.inr s2_0) | (with_reducible exact PE.inr s2_1) | (with_reducible exact PE.inr (by assumption)) | (with_reducible refine PE.ite ?_ ?_) | (with_reducible refine PE.lt (fun _ => ?_)) | (with_reducible refine PE.gu ?_) | (with_reducible refine PE.q1 (fun _ => ?_)) | (with_reducible refine PE.q2 (fun _ _ => ?_)) | (with_reducible assumption))
theorem P_VM_checkRow {t : Nat} {x1 : Int32} {x2 : Int32} {I : sm_MI} : PE se1 (F_VM_checkRow t x1 x2 I) := by
  unfold F_VM_checkRow
  repeat (first | (with_reducible exact PE.inl) | (with_reducible exact PE.none) | (with_reducible exact PE.inr s1_1) | (with_reducible exact PE.inr s0_0) | (with_reducible exact PE.inr s2_0) | (with_reducible exact PE.inr s2_1) | (with_reducible exact PE.inr (by assumption)) | (with_reducible refine PE.ite ?_ ?_) | (with_reducible refine PE.lt (fun _ => ?_)) | (with_reducible refine PE.gu ?_) | (with_reducible refine PE.q1 (fun _ => ?_)) | (with_reducible refine PE.q2 (fun _ _ => ?_)) | (with_reducible refine PE.t1 (P_VM_checkPiece.up (by first | exact s_id | exact s1_s2 | exact s0_s2)) (fun _ => ?_) (fun e he => ?_)) | (with_reducible refine PE.t1 (P_VM_checkPart.up (by first | exact s_id | exact s1_s2 | exact s0_s2)) (fun _ => ?_) (fun e he => ?_)) | (with_reducible assumption))
theorem P_VM_row {t : Nat} {x1 : Int32} {x2 : Int32} {x3 : Int32} {I : sm_MI} : PE se1 (F_VM_row t x1 x2 x3 I) := by
  unfold F_VM_row
  repeat (first | (with_reducible exact PE.inl) | (with_reducible exact PE.none) | (with_reducible exact PE.inr s1_1) | (with_reducible exact PE.inr s0_0) | (with_reducible exact PE.inr s2_0) | (with_reducible exact PE.inr s2_1) | (with_reducible exact PE.inr (by assumption)) | (with_reducible refine PE.ite ?_ ?_) | (with_reducible refine PE.lt (fun _ => ?_)) | (with_reducible refine PE.gu ?_) | (with_reducible refine PE.q1 (fun _ => ?_)) | (with_reducible refine PE.q2 (fun _ _ => ?_)) | (with_reducible refine PE.t1 (P_VM_checkRow.up (by first | exact s_id | exact s1_s2 | exact s0_s2)) (fun _ => ?_) (fun e he => ?_)) | (with_reducible assumption))
theorem P_VM_able {t : Nat} {x1 : Int32} {x2 : Int32} {I : sm_MI} : PE se1 (F_VM_able t x1 x2 I) := by
  unfold F_VM_able
  repeat (first | (with_reducible exact PE.inl) | (with_reducible exact PE.none) | (with_reducible exact PE.inr s1_1) | (with_reducible exact PE.inr s0_0) | (with_reducible exact PE.inr s2_0) | (with_reducible exact PE.inr s2_1) | (with_reducible exact PE.inr (by assumption)) | (with_reducible refine PE.ite ?_ ?_) | (with_reducible refine PE.lt (fun _ => ?_)) | (with_reducible refine PE.gu ?_) | (with_reducible refine PE.q1 (fun _ => ?_)) | (with_reducible refine PE.q2 (fun _ _ => ?_)) | (with_reducible refine PE.t1 (P_VM_checkRow.up (by first | exact s_id | exact s1_s2 | exact s0_s2)) (fun _ => ?_) (fun e he => ?_)) | (with_reducible assumption))
theorem P_VM_standIns {t : Nat} {x1 : Int32} {I : sm_MI} : PE se1 (F_VM_standIns t x1 I) := by
  unfold F_VM_standIns
  repeat (first | (with_reducible exact PE.inl) | (with_reducible exact PE.none) | (with_reducible exact PE.inr s1_1) | (with_reducible exact PE.inr s0_0) | (with_reducible exact PE.inr s2_0) | (with_reducible exact PE.inr s2_1) | (with_reducible exact PE.inr (by assumption)) | (with_reducible refine PE.ite ?_ ?_) | (with_reducible refine PE.lt (fun _ => ?_)) | (with_reducible refine PE.gu ?_) | (with_reducible refine PE.q1 (fun _ => ?_)) | (with_reducible refine PE.q2 (fun _ _ => ?_)) | (with_reducible refine PE.t1 (P_VM_checkSinger.up (by first | exact s_id | exact s1_s2 | exact s0_s2)) (fun _ => ?_) (fun e he => ?_)) | (with_reducible assumption))
theorem P_VM_voices {t : Nat} {x1 : Int32} {x2 : Int32} {I : sm_MI} : PE se1 (F_VM_voices t x1 x2 I) := by
  unfold F_VM_voices
  repeat (first | (with_reducible exact PE.inl) | (with_reducible exact PE.none) | (with_reducible exact PE.inr s1_1) | (with_reducible exact PE.inr s0_0) | (with_reducible exact PE.inr s2_0) | (with_reducible exact PE.inr s2_1) | (with_reducible exact PE.inr (by assumption)) | (with_reducible refine PE.ite ?_ ?_) | (with_reducible refine PE.lt (fun _ => ?_)) | (with_reducible refine PE.gu ?_) | (with_reducible refine PE.q1 (fun _ => ?_)) | (with_reducible refine PE.q2 (fun _ _ => ?_)) | (with_reducible refine PE.t1 (P_VM_checkPart.up (by first | exact s_id | exact s1_s2 | exact s0_s2)) (fun _ => ?_) (fun e he => ?_)) | (with_reducible assumption))
theorem P_VM_rows_16B {t : Nat} {k16 : Int32 → Int32 → Int32 → Option ((Int32 ⊕ Nat))} {x2 : Int32} {x3 : Int32} {x4 : Int32} {I : sm_MI} (hk16 : ∀ (y0 : Int32) (y1 : Int32) (y2 : Int32), PE se1 (k16 y0 y1 y2)) : PE se1 (F_VM_rows_16B t k16 x2 x3 x4 I) := by
  unfold F_VM_rows_16B
  repeat (first | (with_reducible exact PE.inl) | (with_reducible exact PE.none) | (with_reducible exact PE.inr s1_1) | (with_reducible exact PE.inr s0_0) | (with_reducible exact PE.inr s2_0) | (with_reducible exact PE.inr s2_1) | (with_reducible exact PE.inr (by assumption)) | (with_reducible refine PE.ite ?_ ?_) | (with_reducible refine PE.lt (fun _ => ?_)) | (with_reducible refine PE.gu ?_) | (with_reducible refine PE.q1 (fun _ => ?_)) | (with_reducible refine PE.q2 (fun _ _ => ?_)) | (with_reducible apply hk16) | (with_reducible assumption))
theorem P_VM_rows_16 {t : Nat} {I : sm_MI} : ∀ (n : Nat) (v0 : Int32) (v1 : Int32) (v2 : Int32), PE se1 (F_VM_rows_16 t I n v0 v1 v2) := by
  intro n
  induction n with
  | zero => intro v0 v1 v2; exact PE.none
  | succ n ih =>
    intro v0 v1 v2
    show PE se1 (F_VM_rows_16B t (F_VM_rows_16 t I n) v0 v1 v2 I)
    apply P_VM_rows_16B
    all_goals assumption
theorem P_VM_rows {t : Nat} {x1 : Int32} {I : sm_MI} : PE se1 (F_VM_rows t x1 I) := by
  unfold F_VM_rows
  repeat (first | (with_reducible exact PE.inl) | (with_reducible exact PE.none) | (with_reducible exact PE.inr s1_1) | (with_reducible exact PE.inr s0_0) | (with_reducible exact PE.inr s2_0) | (with_reducible exact PE.inr s2_1) | (with_reducible exact PE.inr (by assumption)) | (with_reducible refine PE.ite ?_ ?_) | (with_reducible refine PE.lt (fun _ => ?_)) | (with_reducible refine PE.gu ?_) | (with_reducible refine PE.q1 (fun _ => ?_)) | (with_reducible refine PE.q2 (fun _ _ => ?_)) | (with_reducible refine PE.t1 (P_VM_checkSinger.up (by first | exact s_id | exact s1_s2 | exact s0_s2)) (fun _ => ?_) (fun e he => ?_)) | (with_reducible apply P_VM_rows_16B) | (with_reducible apply P_VM_rows_16) | (with_reducible assumption))
theorem P_VM_fall_18 {t : Nat} {x2 : Int32} {s1 : Int32} {I : sm_MI} : PD se1 (F_VM_fall_18 t x2 s1 I) := by
  unfold F_VM_fall_18
  repeat (first | (with_reducible exact PD.inl) | (with_reducible exact PD.none) | (with_reducible exact PD.inr s1_1) | (with_reducible exact PD.inr s0_0) | (with_reducible exact PD.inr s2_0) | (with_reducible exact PD.inr s2_1) | (with_reducible exact PD.inr (by assumption)) | (with_reducible refine PD.ite ?_ ?_) | (with_reducible refine PD.lt (fun _ => ?_)) | (with_reducible refine PD.gu ?_) | (with_reducible refine PD.q1 (fun _ => ?_)) | (with_reducible refine PD.q2 (fun _ _ => ?_)) | (with_reducible assumption))
theorem P_VM_fall {t : Nat} {x1 : Int32} {I : sm_MI} : PD se1 (F_VM_fall t x1 I) := by
  unfold F_VM_fall
  repeat (first | (with_reducible exact PD.inl) | (with_reducible exact PD.none) | (with_reducible exact PD.inr s1_1) | (with_reducible exact PD.inr s0_0) | (with_reducible exact PD.inr s2_0) | (with_reducible exact PD.inr s2_1) | (with_reducible exact PD.inr (by assumption)) | (with_reducible refine PD.ite ?_ ?_) | (with_reducible refine PD.lt (fun _ => ?_)) | (with_reducible refine PD.gu ?_) | (with_reducible refine PD.q1 (fun _ => ?_)) | (with_reducible refine PD.q2 (fun _ _ => ?_)) | (with_reducible refine PD.t1 (P_VM_checkSinger.up (by first | exact s_id | exact s1_s2 | exact s0_s2)) (fun _ => ?_) (fun e he => ?_)) | (with_reducible apply P_VM_fall_18) | (with_reducible assumption))
theorem P_VM_catches_18 {t : Nat} {x2 : Int32} {s1 : Int32} {I : sm_MI} : PD se1 (F_VM_catches_18 t x2 s1 I) := by
  unfold F_VM_catches_18
  repeat (first | (with_reducible exact PD.inl) | (with_reducible exact PD.none) | (with_reducible exact PD.inr s1_1) | (with_reducible exact PD.inr s0_0) | (with_reducible exact PD.inr s2_0) | (with_reducible exact PD.inr s2_1) | (with_reducible exact PD.inr (by assumption)) | (with_reducible refine PD.ite ?_ ?_) | (with_reducible refine PD.lt (fun _ => ?_)) | (with_reducible refine PD.gu ?_) | (with_reducible refine PD.q1 (fun _ => ?_)) | (with_reducible refine PD.q2 (fun _ _ => ?_)) | (with_reducible assumption))
theorem P_VM_catches {t : Nat} {x1 : Int32} {I : sm_MI} : PD se1 (F_VM_catches t x1 I) := by
  unfold F_VM_catches
  repeat (first | (with_reducible exact PD.inl) | (with_reducible exact PD.none) | (with_reducible exact PD.inr s1_1) | (with_reducible exact PD.inr s0_0) | (with_reducible exact PD.inr s2_0) | (with_reducible exact PD.inr s2_1) | (with_reducible exact PD.inr (by assumption)) | (with_reducible refine PD.ite ?_ ?_) | (with_reducible refine PD.lt (fun _ => ?_)) | (with_reducible refine PD.gu ?_) | (with_reducible refine PD.q1 (fun _ => ?_)) | (with_reducible refine PD.q2 (fun _ _ => ?_)) | (with_reducible refine PD.t1 (P_VM_checkSinger.up (by first | exact s_id | exact s1_s2 | exact s0_s2)) (fun _ => ?_) (fun e he => ?_)) | (with_reducible apply P_VM_catches_18) | (with_reducible assumption))
theorem P_VM_release_18 {t : Nat} {x2 : Int32} {s1 : Int32} {I : sm_MI} : PD se1 (F_VM_release_18 t x2 s1 I) := by
  unfold F_VM_release_18
  repeat (first | (with_reducible exact PD.inl) | (with_reducible exact PD.none) | (with_reducible exact PD.inr s1_1) | (with_reducible exact PD.inr s0_0) | (with_reducible exact PD.inr s2_0) | (with_reducible exact PD.inr s2_1) | (with_reducible exact PD.inr (by assumption)) | (with_reducible refine PD.ite ?_ ?_) | (with_reducible refine PD.lt (fun _ => ?_)) | (with_reducible refine PD.gu ?_) | (with_reducible refine PD.q1 (fun _ => ?_)) | (with_reducible refine PD.q2 (fun _ _ => ?_)) | (with_reducible assumption))
theorem P_VM_release {t : Nat} {x1 : Int32} {I : sm_MI} : PD se1 (F_VM_release t x1 I) := by
  unfold F_VM_release
  repeat (first | (with_reducible exact PD.inl) | (with_reducible exact PD.none) | (with_reducible exact PD.inr s1_1) | (with_reducible exact PD.inr s0_0) | (with_reducible exact PD.inr s2_0) | (with_reducible exact PD.inr s2_1) | (with_reducible exact PD.inr (by assumption)) | (with_reducible refine PD.ite ?_ ?_) | (with_reducible refine PD.lt (fun _ => ?_)) | (with_reducible refine PD.gu ?_) | (with_reducible refine PD.q1 (fun _ => ?_)) | (with_reducible refine PD.q2 (fun _ _ => ?_)) | (with_reducible refine PD.t1 (P_VM_checkSinger.up (by first | exact s_id | exact s1_s2 | exact s0_s2)) (fun _ => ?_) (fun e he => ?_)) | (with_reducible apply P_VM_release_18) | (with_reducible assumption))
theorem P_VM_exchange_36 {t : Nat} {x1 : Int32} {x2 : Int32} {s0 : Int32} {I : sm_MI} : PD se1 (F_VM_exchange_36 t x1 x2 s0 I) := by
  unfold F_VM_exchange_36
  repeat (first | (with_reducible exact PD.inl) | (with_reducible exact PD.none) | (with_reducible exact PD.inr s1_1) | (with_reducible exact PD.inr s0_0) | (with_reducible exact PD.inr s2_0) | (with_reducible exact PD.inr s2_1) | (with_reducible exact PD.inr (by assumption)) | (with_reducible refine PD.ite ?_ ?_) | (with_reducible refine PD.lt (fun _ => ?_)) | (with_reducible refine PD.gu ?_) | (with_reducible refine PD.q1 (fun _ => ?_)) | (with_reducible refine PD.q2 (fun _ _ => ?_)) | (with_reducible assumption))
theorem P_VM_exchange {t : Nat} {x1 : Int32} {x2 : Int32} {I : sm_MI} : PD se1 (F_VM_exchange t x1 x2 I) := by
  unfold F_VM_exchange
  repeat (first | (with_reducible exact PD.inl) | (with_reducible exact PD.none) | (with_reducible exact PD.inr s1_1) | (with_reducible exact PD.inr s0_0) | (with_reducible exact PD.inr s2_0) | (with_reducible exact PD.inr s2_1) | (with_reducible exact PD.inr (by assumption)) | (with_reducible refine PD.ite ?_ ?_) | (with_reducible refine PD.lt (fun _ => ?_)) | (with_reducible refine PD.gu ?_) | (with_reducible refine PD.q1 (fun _ => ?_)) | (with_reducible refine PD.q2 (fun _ _ => ?_)) | (with_reducible refine PD.t1 (P_VM_checkSinger.up (by first | exact s_id | exact s1_s2 | exact s0_s2)) (fun _ => ?_) (fun e he => ?_)) | (with_reducible apply P_VM_exchange_36) | (with_reducible assumption))
theorem P_VM_moved {t : Nat} {x1 : Int32} {I : sm_MI} : PE se1 (F_VM_moved t x1 I) := by
  unfold F_VM_moved
  repeat (first | (with_reducible exact PE.inl) | (with_reducible exact PE.none) | (with_reducible exact PE.inr s1_1) | (with_reducible exact PE.inr s0_0) | (with_reducible exact PE.inr s2_0) | (with_reducible exact PE.inr s2_1) | (with_reducible exact PE.inr (by assumption)) | (with_reducible refine PE.ite ?_ ?_) | (with_reducible refine PE.lt (fun _ => ?_)) | (with_reducible refine PE.gu ?_) | (with_reducible refine PE.q1 (fun _ => ?_)) | (with_reducible refine PE.q2 (fun _ _ => ?_)) | (with_reducible refine PE.t1 (P_VM_checkPiece.up (by first | exact s_id | exact s1_s2 | exact s0_s2)) (fun _ => ?_) (fun e he => ?_)) | (with_reducible assumption))
theorem P_VM_spare {t : Nat} {x1 : Int32} {I : sm_MI} : PE se1 (F_VM_spare t x1 I) := by
  unfold F_VM_spare
  repeat (first | (with_reducible exact PE.inl) | (with_reducible exact PE.none) | (with_reducible exact PE.inr s1_1) | (with_reducible exact PE.inr s0_0) | (with_reducible exact PE.inr s2_0) | (with_reducible exact PE.inr s2_1) | (with_reducible exact PE.inr (by assumption)) | (with_reducible refine PE.ite ?_ ?_) | (with_reducible refine PE.lt (fun _ => ?_)) | (with_reducible refine PE.gu ?_) | (with_reducible refine PE.q1 (fun _ => ?_)) | (with_reducible refine PE.q2 (fun _ _ => ?_)) | (with_reducible refine PE.t1 (P_VM_checkPiece.up (by first | exact s_id | exact s1_s2 | exact s0_s2)) (fun _ => ?_) (fun e he => ?_)) | (with_reducible assumption))
theorem P_VM_ransom {t : Nat} {x1 : Int32} {I : sm_MI} : PE se1 (F_VM_ransom t x1 I) := by
  unfold F_VM_ransom
  repeat (first | (with_reducible exact PE.inl) | (with_reducible exact PE.none) | (with_reducible exact PE.inr s1_1) | (with_reducible exact PE.inr s0_0) | (with_reducible exact PE.inr s2_0) | (with_reducible exact PE.inr s2_1) | (with_reducible exact PE.inr (by assumption)) | (with_reducible refine PE.ite ?_ ?_) | (with_reducible refine PE.lt (fun _ => ?_)) | (with_reducible refine PE.gu ?_) | (with_reducible refine PE.q1 (fun _ => ?_)) | (with_reducible refine PE.q2 (fun _ _ => ?_)) | (with_reducible refine PE.t1 (P_VM_checkPiece.up (by first | exact s_id | exact s1_s2 | exact s0_s2)) (fun _ => ?_) (fun e he => ?_)) | (with_reducible assumption))
theorem P_VM_cast {t : Nat} {x1 : Int32} {x2 : Int32} {I : sm_MI} : PE se1 (F_VM_cast t x1 x2 I) := by
  unfold F_VM_cast
  repeat (first | (with_reducible exact PE.inl) | (with_reducible exact PE.none) | (with_reducible exact PE.inr s1_1) | (with_reducible exact PE.inr s0_0) | (with_reducible exact PE.inr s2_0) | (with_reducible exact PE.inr s2_1) | (with_reducible exact PE.inr (by assumption)) | (with_reducible refine PE.ite ?_ ?_) | (with_reducible refine PE.lt (fun _ => ?_)) | (with_reducible refine PE.gu ?_) | (with_reducible refine PE.q1 (fun _ => ?_)) | (with_reducible refine PE.q2 (fun _ _ => ?_)) | (with_reducible refine PE.t1 (P_VM_checkPiece.up (by first | exact s_id | exact s1_s2 | exact s0_s2)) (fun _ => ?_) (fun e he => ?_)) | (with_reducible assumption))
theorem P_VM_casts {t : Nat} {x1 : Int32} {I : sm_MI} : PE se1 (F_VM_casts t x1 I) := by
  unfold F_VM_casts
  repeat (first | (with_reducible exact PE.inl) | (with_reducible exact PE.none) | (with_reducible exact PE.inr s1_1) | (with_reducible exact PE.inr s0_0) | (with_reducible exact PE.inr s2_0) | (with_reducible exact PE.inr s2_1) | (with_reducible exact PE.inr (by assumption)) | (with_reducible refine PE.ite ?_ ?_) | (with_reducible refine PE.lt (fun _ => ?_)) | (with_reducible refine PE.gu ?_) | (with_reducible refine PE.q1 (fun _ => ?_)) | (with_reducible refine PE.q2 (fun _ _ => ?_)) | (with_reducible refine PE.t1 (P_VM_checkPiece.up (by first | exact s_id | exact s1_s2 | exact s0_s2)) (fun _ => ?_) (fun e he => ?_)) | (with_reducible assumption))
theorem P_VM_transposed_5B {t : Nat} {k5 : Int32 → Int32 → Option ((Int32 ⊕ Nat))} {x1 : Int32} {x2 : Int32} {I : sm_MI} (hk5 : ∀ (y0 : Int32) (y1 : Int32), PE se1 (k5 y0 y1)) : PE se1 (F_VM_transposed_5B t k5 x1 x2 I) := by
  unfold F_VM_transposed_5B
  repeat (first | (with_reducible exact PE.inl) | (with_reducible exact PE.none) | (with_reducible exact PE.inr s1_1) | (with_reducible exact PE.inr s0_0) | (with_reducible exact PE.inr s2_0) | (with_reducible exact PE.inr s2_1) | (with_reducible exact PE.inr (by assumption)) | (with_reducible refine PE.ite ?_ ?_) | (with_reducible refine PE.lt (fun _ => ?_)) | (with_reducible refine PE.gu ?_) | (with_reducible refine PE.q1 (fun _ => ?_)) | (with_reducible refine PE.q2 (fun _ _ => ?_)) | (with_reducible apply hk5) | (with_reducible assumption))
theorem P_VM_transposed_5 {t : Nat} {I : sm_MI} : ∀ (n : Nat) (v0 : Int32) (v1 : Int32), PE se1 (F_VM_transposed_5 t I n v0 v1) := by
  intro n
  induction n with
  | zero => intro v0 v1; exact PE.none
  | succ n ih =>
    intro v0 v1
    show PE se1 (F_VM_transposed_5B t (F_VM_transposed_5 t I n) v0 v1 I)
    apply P_VM_transposed_5B
    all_goals assumption
theorem P_VM_transposed {t : Nat} {x1 : Int32} {I : sm_MI} : PE se1 (F_VM_transposed t x1 I) := by
  unfold F_VM_transposed
  repeat (first | (with_reducible exact PE.inl) | (with_reducible exact PE.none) | (with_reducible exact PE.inr s1_1) | (with_reducible exact PE.inr s0_0) | (with_reducible exact PE.inr s2_0) | (with_reducible exact PE.inr s2_1) | (with_reducible exact PE.inr (by assumption)) | (with_reducible refine PE.ite ?_ ?_) | (with_reducible refine PE.lt (fun _ => ?_)) | (with_reducible refine PE.gu ?_) | (with_reducible refine PE.q1 (fun _ => ?_)) | (with_reducible refine PE.q2 (fun _ _ => ?_)) | (with_reducible refine PE.t1 (P_VM_checkPiece.up (by first | exact s_id | exact s1_s2 | exact s0_s2)) (fun _ => ?_) (fun e he => ?_)) | (with_reducible apply P_VM_transposed_5B) | (with_reducible apply P_VM_transposed_5) | (with_reducible assumption))
theorem P_VM_lacking {t : Nat} {x1 : Int32} {x2 : Int32} {I : sm_MI} : PE se1 (F_VM_lacking t x1 x2 I) := by
  unfold F_VM_lacking
  repeat (first | (with_reducible exact PE.inl) | (with_reducible exact PE.none) | (with_reducible exact PE.inr s1_1) | (with_reducible exact PE.inr s0_0) | (with_reducible exact PE.inr s2_0) | (with_reducible exact PE.inr s2_1) | (with_reducible exact PE.inr (by assumption)) | (with_reducible refine PE.ite ?_ ?_) | (with_reducible refine PE.lt (fun _ => ?_)) | (with_reducible refine PE.gu ?_) | (with_reducible refine PE.q1 (fun _ => ?_)) | (with_reducible refine PE.q2 (fun _ _ => ?_)) | (with_reducible refine PE.t1 (P_VM_checkRow.up (by first | exact s_id | exact s1_s2 | exact s0_s2)) (fun _ => ?_) (fun e he => ?_)) | (with_reducible assumption))
theorem P_VM_widen {t : Nat} {x1 : Int32} {x2 : Int32} {I : sm_MI} : PE se1 (F_VM_widen t x1 x2 I) := by
  unfold F_VM_widen
  repeat (first | (with_reducible exact PE.inl) | (with_reducible exact PE.none) | (with_reducible exact PE.inr s1_1) | (with_reducible exact PE.inr s0_0) | (with_reducible exact PE.inr s2_0) | (with_reducible exact PE.inr s2_1) | (with_reducible exact PE.inr (by assumption)) | (with_reducible refine PE.ite ?_ ?_) | (with_reducible refine PE.lt (fun _ => ?_)) | (with_reducible refine PE.gu ?_) | (with_reducible refine PE.q1 (fun _ => ?_)) | (with_reducible refine PE.q2 (fun _ _ => ?_)) | (with_reducible refine PE.t1 (P_VM_checkPiece.up (by first | exact s_id | exact s1_s2 | exact s0_s2)) (fun _ => ?_) (fun e he => ?_)) | (with_reducible assumption))
theorem P_VM_luck {t : Nat} {x1 : Int32} {x2 : Int32} {x3 : Int32} {I : sm_MI} : PD se2 (F_VM_luck t x1 x2 x3 I) := by
  unfold F_VM_luck
  repeat (first | (with_reducible exact PD.inl) | (with_reducible exact PD.none) | (with_reducible exact PD.inr s1_1) | (with_reducible exact PD.inr s0_0) | (with_reducible exact PD.inr s2_0) | (with_reducible exact PD.inr s2_1) | (with_reducible exact PD.inr (by assumption)) | (with_reducible refine PD.ite ?_ ?_) | (with_reducible refine PD.lt (fun _ => ?_)) | (with_reducible refine PD.gu ?_) | (with_reducible refine PD.q1 (fun _ => ?_)) | (with_reducible refine PD.q2 (fun _ _ => ?_)) | (with_reducible refine PD.t1 (P_VM_checkPiece.up (by first | exact s_id | exact s1_s2 | exact s0_s2)) (fun _ => ?_) (fun e he => ?_)) | (with_reducible assumption))
theorem P_VM_codes {t : Nat} {x1 : Int32} {x2 : Int32} {I : sm_MI} : PE se2 (F_VM_codes t x1 x2 I) := by
  unfold F_VM_codes
  repeat (first | (with_reducible exact PE.inl) | (with_reducible exact PE.none) | (with_reducible exact PE.inr s1_1) | (with_reducible exact PE.inr s0_0) | (with_reducible exact PE.inr s2_0) | (with_reducible exact PE.inr s2_1) | (with_reducible exact PE.inr (by assumption)) | (with_reducible refine PE.ite ?_ ?_) | (with_reducible refine PE.lt (fun _ => ?_)) | (with_reducible refine PE.gu ?_) | (with_reducible refine PE.q1 (fun _ => ?_)) | (with_reducible refine PE.q2 (fun _ _ => ?_)) | (with_reducible refine PE.t1 (P_VM_checkPiece.up (by first | exact s_id | exact s1_s2 | exact s0_s2)) (fun _ => ?_) (fun e he => ?_)) | (with_reducible assumption))
theorem P_VM_slips_20B {t : Nat} {k20 : Int32 → Int32 → Int32 → Option ((Int32 ⊕ Nat))} {x2 : Int32} {x3 : Int32} {x4 : Int32} {I : sm_MI} (hk20 : ∀ (y0 : Int32) (y1 : Int32) (y2 : Int32), PE se2 (k20 y0 y1 y2)) : PE se2 (F_VM_slips_20B t k20 x2 x3 x4 I) := by
  unfold F_VM_slips_20B
  repeat (first | (with_reducible exact PE.inl) | (with_reducible exact PE.none) | (with_reducible exact PE.inr s1_1) | (with_reducible exact PE.inr s0_0) | (with_reducible exact PE.inr s2_0) | (with_reducible exact PE.inr s2_1) | (with_reducible exact PE.inr (by assumption)) | (with_reducible refine PE.ite ?_ ?_) | (with_reducible refine PE.lt (fun _ => ?_)) | (with_reducible refine PE.gu ?_) | (with_reducible refine PE.q1 (fun _ => ?_)) | (with_reducible refine PE.q2 (fun _ _ => ?_)) | (with_reducible apply hk20) | (with_reducible assumption))
theorem P_VM_slips_20 {t : Nat} {I : sm_MI} : ∀ (n : Nat) (v0 : Int32) (v1 : Int32) (v2 : Int32), PE se2 (F_VM_slips_20 t I n v0 v1 v2) := by
  intro n
  induction n with
  | zero => intro v0 v1 v2; exact PE.none
  | succ n ih =>
    intro v0 v1 v2
    show PE se2 (F_VM_slips_20B t (F_VM_slips_20 t I n) v0 v1 v2 I)
    apply P_VM_slips_20B
    all_goals assumption
theorem P_VM_slips {t : Nat} {x1 : Int32} {x2 : Int32} {I : sm_MI} : PE se2 (F_VM_slips t x1 x2 I) := by
  unfold F_VM_slips
  repeat (first | (with_reducible exact PE.inl) | (with_reducible exact PE.none) | (with_reducible exact PE.inr s1_1) | (with_reducible exact PE.inr s0_0) | (with_reducible exact PE.inr s2_0) | (with_reducible exact PE.inr s2_1) | (with_reducible exact PE.inr (by assumption)) | (with_reducible refine PE.ite ?_ ?_) | (with_reducible refine PE.lt (fun _ => ?_)) | (with_reducible refine PE.gu ?_) | (with_reducible refine PE.q1 (fun _ => ?_)) | (with_reducible refine PE.q2 (fun _ _ => ?_)) | (with_reducible refine PE.t1 (P_VM_checkPiece.up (by first | exact s_id | exact s1_s2 | exact s0_s2)) (fun _ => ?_) (fun e he => ?_)) | (with_reducible apply P_VM_slips_20B) | (with_reducible apply P_VM_slips_20) | (with_reducible assumption))
theorem P_VM_hear_35 {t : Nat} {I : sm_MI} : PD se1 (F_VM_hear_35 t I) := by
  unfold F_VM_hear_35
  repeat (first | (with_reducible exact PD.inl) | (with_reducible exact PD.none) | (with_reducible exact PD.inr s1_1) | (with_reducible exact PD.inr s0_0) | (with_reducible exact PD.inr s2_0) | (with_reducible exact PD.inr s2_1) | (with_reducible exact PD.inr (by assumption)) | (with_reducible refine PD.ite ?_ ?_) | (with_reducible refine PD.lt (fun _ => ?_)) | (with_reducible refine PD.gu ?_) | (with_reducible refine PD.q1 (fun _ => ?_)) | (with_reducible refine PD.q2 (fun _ _ => ?_)) | (with_reducible assumption))
theorem P_VM_hear_22 {t : Nat} {x3 : Int32} {x4 : Int32} {x5 : Int32} {s0 : Int32} {I : sm_MI} : PD se1 (F_VM_hear_22 t x3 x4 x5 s0 I) := by
  unfold F_VM_hear_22
  repeat (first | (with_reducible exact PD.inl) | (with_reducible exact PD.none) | (with_reducible exact PD.inr s1_1) | (with_reducible exact PD.inr s0_0) | (with_reducible exact PD.inr s2_0) | (with_reducible exact PD.inr s2_1) | (with_reducible exact PD.inr (by assumption)) | (with_reducible refine PD.ite ?_ ?_) | (with_reducible refine PD.lt (fun _ => ?_)) | (with_reducible refine PD.gu ?_) | (with_reducible refine PD.q1 (fun _ => ?_)) | (with_reducible refine PD.q2 (fun _ _ => ?_)) | (with_reducible apply P_VM_hear_35) | (with_reducible assumption))
theorem P_VM_hear {t : Nat} {x1 : Int32} {x2 : Int32} {x3 : Int32} {x4 : Int32} {I : sm_MI} : PD se1 (F_VM_hear t x1 x2 x3 x4 I) := by
  unfold F_VM_hear
  repeat (first | (with_reducible exact PD.inl) | (with_reducible exact PD.none) | (with_reducible exact PD.inr s1_1) | (with_reducible exact PD.inr s0_0) | (with_reducible exact PD.inr s2_0) | (with_reducible exact PD.inr s2_1) | (with_reducible exact PD.inr (by assumption)) | (with_reducible refine PD.ite ?_ ?_) | (with_reducible refine PD.lt (fun _ => ?_)) | (with_reducible refine PD.gu ?_) | (with_reducible refine PD.q1 (fun _ => ?_)) | (with_reducible refine PD.q2 (fun _ _ => ?_)) | (with_reducible refine PD.t1 (P_VM_checkRow.up (by first | exact s_id | exact s1_s2 | exact s0_s2)) (fun _ => ?_) (fun e he => ?_)) | (with_reducible apply P_VM_hear_35) | (with_reducible apply P_VM_hear_22) | (with_reducible assumption))
theorem P_VM_flat_33B {t : Nat} {k26 : Int32 → Int32 → Int32 → Option ((Int32 ⊕ Nat))} {k33 : Int32 → Int32 → Int32 → Int32 → Option ((Int32 ⊕ Nat))} {x1 : Int32} {x2 : Int32} {x3 : Int32} {x4 : Int32} {I : sm_MI} (hk26 : ∀ (y0 : Int32) (y1 : Int32) (y2 : Int32), PE se1 (k26 y0 y1 y2)) (hk33 : ∀ (y0 : Int32) (y1 : Int32) (y2 : Int32) (y3 : Int32), PE se1 (k33 y0 y1 y2 y3)) : PE se1 (F_VM_flat_33B t k26 k33 x1 x2 x3 x4 I) := by
  unfold F_VM_flat_33B
  repeat (first | (with_reducible exact PE.inl) | (with_reducible exact PE.none) | (with_reducible exact PE.inr s1_1) | (with_reducible exact PE.inr s0_0) | (with_reducible exact PE.inr s2_0) | (with_reducible exact PE.inr s2_1) | (with_reducible exact PE.inr (by assumption)) | (with_reducible refine PE.ite ?_ ?_) | (with_reducible refine PE.lt (fun _ => ?_)) | (with_reducible refine PE.gu ?_) | (with_reducible refine PE.q1 (fun _ => ?_)) | (with_reducible refine PE.q2 (fun _ _ => ?_)) | (with_reducible apply hk26) | (with_reducible apply hk33) | (with_reducible assumption))
theorem P_VM_flat_33 {t : Nat} {k26 : Int32 → Int32 → Int32 → Option ((Int32 ⊕ Nat))} {I : sm_MI} (hk26 : ∀ (y0 : Int32) (y1 : Int32) (y2 : Int32), PE se1 (k26 y0 y1 y2)) : ∀ (n : Nat) (v0 : Int32) (v1 : Int32) (v2 : Int32) (v3 : Int32), PE se1 (F_VM_flat_33 t k26 I n v0 v1 v2 v3) := by
  intro n
  induction n with
  | zero => intro v0 v1 v2 v3; exact PE.none
  | succ n ih =>
    intro v0 v1 v2 v3
    show PE se1 (F_VM_flat_33B t k26 (F_VM_flat_33 t k26 I n) v0 v1 v2 v3 I)
    apply P_VM_flat_33B
    all_goals assumption
theorem P_VM_flat_26B {t : Nat} {k26 : Int32 → Int32 → Int32 → Option ((Int32 ⊕ Nat))} {x1 : Int32} {x2 : Int32} {x3 : Int32} {I : sm_MI} (hk26 : ∀ (y0 : Int32) (y1 : Int32) (y2 : Int32), PE se1 (k26 y0 y1 y2)) : PE se1 (F_VM_flat_26B t k26 x1 x2 x3 I) := by
  unfold F_VM_flat_26B
  repeat (first | (with_reducible exact PE.inl) | (with_reducible exact PE.none) | (with_reducible exact PE.inr s1_1) | (with_reducible exact PE.inr s0_0) | (with_reducible exact PE.inr s2_0) | (with_reducible exact PE.inr s2_1) | (with_reducible exact PE.inr (by assumption)) | (with_reducible refine PE.ite ?_ ?_) | (with_reducible refine PE.lt (fun _ => ?_)) | (with_reducible refine PE.gu ?_) | (with_reducible refine PE.q1 (fun _ => ?_)) | (with_reducible refine PE.q2 (fun _ _ => ?_)) | (with_reducible apply hk26) | (with_reducible apply P_VM_flat_33B) | (with_reducible apply P_VM_flat_33) | (with_reducible assumption))
theorem P_VM_flat_26 {t : Nat} {I : sm_MI} : ∀ (n : Nat) (v0 : Int32) (v1 : Int32) (v2 : Int32), PE se1 (F_VM_flat_26 t I n v0 v1 v2) := by
  intro n
  induction n with
  | zero => intro v0 v1 v2; exact PE.none
  | succ n ih =>
    intro v0 v1 v2
    show PE se1 (F_VM_flat_26B t (F_VM_flat_26 t I n) v0 v1 v2 I)
    apply P_VM_flat_26B
    all_goals assumption
theorem P_VM_flat {t : Nat} {x1 : Int32} {I : sm_MI} : PE se1 (F_VM_flat t x1 I) := by
  unfold F_VM_flat
  repeat (first | (with_reducible exact PE.inl) | (with_reducible exact PE.none) | (with_reducible exact PE.inr s1_1) | (with_reducible exact PE.inr s0_0) | (with_reducible exact PE.inr s2_0) | (with_reducible exact PE.inr s2_1) | (with_reducible exact PE.inr (by assumption)) | (with_reducible refine PE.ite ?_ ?_) | (with_reducible refine PE.lt (fun _ => ?_)) | (with_reducible refine PE.gu ?_) | (with_reducible refine PE.q1 (fun _ => ?_)) | (with_reducible refine PE.q2 (fun _ _ => ?_)) | (with_reducible apply P_VM_flat_33B) | (with_reducible apply P_VM_flat_33) | (with_reducible apply P_VM_flat_26B) | (with_reducible apply P_VM_flat_26) | (with_reducible assumption))
theorem P_VM_checkWarring {x1 : Int32} : PE se1 (F_VM_checkWarring x1) := by
  unfold F_VM_checkWarring
  repeat (first | (with_reducible exact PE.inl) | (with_reducible exact PE.none) | (with_reducible exact PE.inr s1_1) | (with_reducible exact PE.inr s0_0) | (with_reducible exact PE.inr s2_0) | (with_reducible exact PE.inr s2_1) | (with_reducible exact PE.inr (by assumption)) | (with_reducible refine PE.ite ?_ ?_) | (with_reducible refine PE.lt (fun _ => ?_)) | (with_reducible refine PE.gu ?_) | (with_reducible refine PE.q1 (fun _ => ?_)) | (with_reducible refine PE.q2 (fun _ _ => ?_)) | (with_reducible assumption))
theorem P_VM_holds {t : Nat} {x1 : Int32} {I : sm_MI} : PD se1 (F_VM_holds t x1 I) := by
  unfold F_VM_holds
  repeat (first | (with_reducible exact PD.inl) | (with_reducible exact PD.none) | (with_reducible exact PD.inr s1_1) | (with_reducible exact PD.inr s0_0) | (with_reducible exact PD.inr s2_0) | (with_reducible exact PD.inr s2_1) | (with_reducible exact PD.inr (by assumption)) | (with_reducible refine PD.ite ?_ ?_) | (with_reducible refine PD.lt (fun _ => ?_)) | (with_reducible refine PD.gu ?_) | (with_reducible refine PD.q1 (fun _ => ?_)) | (with_reducible refine PD.q2 (fun _ _ => ?_)) | (with_reducible refine PD.t1 (P_VM_checkWarring.up (by first | exact s_id | exact s1_s2 | exact s0_s2)) (fun _ => ?_) (fun e he => ?_)) | (with_reducible assumption))
theorem P_VM_aimed {t : Nat} {x1 : Int32} {I : sm_MI} : PD se1 (F_VM_aimed t x1 I) := by
  unfold F_VM_aimed
  repeat (first | (with_reducible exact PD.inl) | (with_reducible exact PD.none) | (with_reducible exact PD.inr s1_1) | (with_reducible exact PD.inr s0_0) | (with_reducible exact PD.inr s2_0) | (with_reducible exact PD.inr s2_1) | (with_reducible exact PD.inr (by assumption)) | (with_reducible refine PD.ite ?_ ?_) | (with_reducible refine PD.lt (fun _ => ?_)) | (with_reducible refine PD.gu ?_) | (with_reducible refine PD.q1 (fun _ => ?_)) | (with_reducible refine PD.q2 (fun _ _ => ?_)) | (with_reducible refine PD.t1 (P_VM_checkWarring.up (by first | exact s_id | exact s1_s2 | exact s0_s2)) (fun _ => ?_) (fun e he => ?_)) | (with_reducible assumption))
theorem P_VM_checkDays {x1 : Int32} : PE se0 (F_VM_checkDays x1) := by
  unfold F_VM_checkDays
  repeat (first | (with_reducible exact PE.inl) | (with_reducible exact PE.none) | (with_reducible exact PE.inr s1_1) | (with_reducible exact PE.inr s0_0) | (with_reducible exact PE.inr s2_0) | (with_reducible exact PE.inr s2_1) | (with_reducible exact PE.inr (by assumption)) | (with_reducible refine PE.ite ?_ ?_) | (with_reducible refine PE.lt (fun _ => ?_)) | (with_reducible refine PE.gu ?_) | (with_reducible refine PE.q1 (fun _ => ?_)) | (with_reducible refine PE.q2 (fun _ _ => ?_)) | (with_reducible assumption))
theorem P_VM_falls_13B {t : Nat} {k13 : Int32 → Int32 → Int32 → sm_MI → Option ((Int32 ⊕ Nat) × sm_MI)} {x1 : Int32} {x2 : Int32} {x3 : Int32} {I : sm_MI} (hk13 : ∀ (y0 : Int32) (y1 : Int32) (y2 : Int32) (y3 : sm_MI), PD se0 (k13 y0 y1 y2 y3)) : PD se0 (F_VM_falls_13B t k13 x1 x2 x3 I) := by
  unfold F_VM_falls_13B
  repeat (first | (with_reducible exact PD.inl) | (with_reducible exact PD.none) | (with_reducible exact PD.inr s1_1) | (with_reducible exact PD.inr s0_0) | (with_reducible exact PD.inr s2_0) | (with_reducible exact PD.inr s2_1) | (with_reducible exact PD.inr (by assumption)) | (with_reducible refine PD.ite ?_ ?_) | (with_reducible refine PD.lt (fun _ => ?_)) | (with_reducible refine PD.gu ?_) | (with_reducible refine PD.q1 (fun _ => ?_)) | (with_reducible refine PD.q2 (fun _ _ => ?_)) | (with_reducible apply hk13) | (with_reducible assumption))
theorem P_VM_falls_13 {t : Nat} : ∀ (n : Nat) (v0 : Int32) (v1 : Int32) (v2 : Int32) (v3 : sm_MI), PD se0 (F_VM_falls_13 t n v0 v1 v2 v3) := by
  intro n
  induction n with
  | zero => intro v0 v1 v2 v3; exact PD.none
  | succ n ih =>
    intro v0 v1 v2 v3
    show PD se0 (F_VM_falls_13B t (F_VM_falls_13 t n) v0 v1 v2 v3)
    apply P_VM_falls_13B
    all_goals assumption
theorem P_VM_falls {t : Nat} {x1 : Int32} {I : sm_MI} : PD se0 (F_VM_falls t x1 I) := by
  unfold F_VM_falls
  repeat (first | (with_reducible exact PD.inl) | (with_reducible exact PD.none) | (with_reducible exact PD.inr s1_1) | (with_reducible exact PD.inr s0_0) | (with_reducible exact PD.inr s2_0) | (with_reducible exact PD.inr s2_1) | (with_reducible exact PD.inr (by assumption)) | (with_reducible refine PD.ite ?_ ?_) | (with_reducible refine PD.lt (fun _ => ?_)) | (with_reducible refine PD.gu ?_) | (with_reducible refine PD.q1 (fun _ => ?_)) | (with_reducible refine PD.q2 (fun _ _ => ?_)) | (with_reducible refine PD.t1 (P_VM_checkDays.up (by first | exact s_id | exact s1_s2 | exact s0_s2)) (fun _ => ?_) (fun e he => ?_)) | (with_reducible apply P_VM_falls_13B) | (with_reducible apply P_VM_falls_13) | (with_reducible assumption))
theorem P_VM_held_27 {t : Nat} {k16 : Int32 → Int32 → Int32 → Int32 → sm_MI → Option ((Int32 ⊕ Nat) × sm_MI)} {x1 : Int32} {x2 : Int32} {x3 : Int32} {x4 : Int32} {I : sm_MI} (hk16 : ∀ (y0 : Int32) (y1 : Int32) (y2 : Int32) (y3 : Int32) (y4 : sm_MI), PD se2 (k16 y0 y1 y2 y3 y4)) : PD se2 (F_VM_held_27 t k16 x1 x2 x3 x4 I) := by
  unfold F_VM_held_27
  repeat (first | (with_reducible exact PD.inl) | (with_reducible exact PD.none) | (with_reducible exact PD.inr s1_1) | (with_reducible exact PD.inr s0_0) | (with_reducible exact PD.inr s2_0) | (with_reducible exact PD.inr s2_1) | (with_reducible exact PD.inr (by assumption)) | (with_reducible refine PD.ite ?_ ?_) | (with_reducible refine PD.lt (fun _ => ?_)) | (with_reducible refine PD.gu ?_) | (with_reducible refine PD.q1 (fun _ => ?_)) | (with_reducible refine PD.q2 (fun _ _ => ?_)) | (with_reducible apply hk16) | (with_reducible assumption))
theorem P_VM_held_16B {t : Nat} {k16 : Int32 → Int32 → Int32 → Int32 → sm_MI → Option ((Int32 ⊕ Nat) × sm_MI)} {x1 : Int32} {x2 : Int32} {x3 : Int32} {x4 : Int32} {I : sm_MI} (hk16 : ∀ (y0 : Int32) (y1 : Int32) (y2 : Int32) (y3 : Int32) (y4 : sm_MI), PD se2 (k16 y0 y1 y2 y3 y4)) : PD se2 (F_VM_held_16B t k16 x1 x2 x3 x4 I) := by
  unfold F_VM_held_16B
  repeat (first | (with_reducible exact PD.inl) | (with_reducible exact PD.none) | (with_reducible exact PD.inr s1_1) | (with_reducible exact PD.inr s0_0) | (with_reducible exact PD.inr s2_0) | (with_reducible exact PD.inr s2_1) | (with_reducible exact PD.inr (by assumption)) | (with_reducible refine PD.ite ?_ ?_) | (with_reducible refine PD.lt (fun _ => ?_)) | (with_reducible refine PD.gu ?_) | (with_reducible refine PD.q1 (fun _ => ?_)) | (with_reducible refine PD.q2 (fun _ _ => ?_)) | (with_reducible apply hk16) | (with_reducible apply P_VM_held_27) | (with_reducible assumption))
theorem P_VM_held_16 {t : Nat} : ∀ (n : Nat) (v0 : Int32) (v1 : Int32) (v2 : Int32) (v3 : Int32) (v4 : sm_MI), PD se2 (F_VM_held_16 t n v0 v1 v2 v3 v4) := by
  intro n
  induction n with
  | zero => intro v0 v1 v2 v3 v4; exact PD.none
  | succ n ih =>
    intro v0 v1 v2 v3 v4
    show PD se2 (F_VM_held_16B t (F_VM_held_16 t n) v0 v1 v2 v3 v4)
    apply P_VM_held_16B
    all_goals assumption
theorem P_VM_held {t : Nat} {x1 : Int32} {x2 : Int32} {I : sm_MI} : PD se2 (F_VM_held t x1 x2 I) := by
  unfold F_VM_held
  repeat (first | (with_reducible exact PD.inl) | (with_reducible exact PD.none) | (with_reducible exact PD.inr s1_1) | (with_reducible exact PD.inr s0_0) | (with_reducible exact PD.inr s2_0) | (with_reducible exact PD.inr s2_1) | (with_reducible exact PD.inr (by assumption)) | (with_reducible refine PD.ite ?_ ?_) | (with_reducible refine PD.lt (fun _ => ?_)) | (with_reducible refine PD.gu ?_) | (with_reducible refine PD.q1 (fun _ => ?_)) | (with_reducible refine PD.q2 (fun _ _ => ?_)) | (with_reducible refine PD.t1 (P_VM_checkWarring.up (by first | exact s_id | exact s1_s2 | exact s0_s2)) (fun _ => ?_) (fun e he => ?_)) | (with_reducible refine PD.t1 (P_VM_checkDays.up (by first | exact s_id | exact s1_s2 | exact s0_s2)) (fun _ => ?_) (fun e he => ?_)) | (with_reducible apply P_VM_held_27) | (with_reducible apply P_VM_held_16B) | (with_reducible apply P_VM_held_16) | (with_reducible assumption))
theorem P_VM_lost_11B {t : Nat} {k11 : Int32 → Int32 → sm_MI → Option ((Int32 ⊕ Nat) × sm_MI)} {x1 : Int32} {x2 : Int32} {I : sm_MI} (hk11 : ∀ (y0 : Int32) (y1 : Int32) (y2 : sm_MI), PD se1 (k11 y0 y1 y2)) : PD se1 (F_VM_lost_11B t k11 x1 x2 I) := by
  unfold F_VM_lost_11B
  repeat (first | (with_reducible exact PD.inl) | (with_reducible exact PD.none) | (with_reducible exact PD.inr s1_1) | (with_reducible exact PD.inr s0_0) | (with_reducible exact PD.inr s2_0) | (with_reducible exact PD.inr s2_1) | (with_reducible exact PD.inr (by assumption)) | (with_reducible refine PD.ite ?_ ?_) | (with_reducible refine PD.lt (fun _ => ?_)) | (with_reducible refine PD.gu ?_) | (with_reducible refine PD.q1 (fun _ => ?_)) | (with_reducible refine PD.q2 (fun _ _ => ?_)) | (with_reducible apply hk11) | (with_reducible assumption))
theorem P_VM_lost_11 {t : Nat} : ∀ (n : Nat) (v0 : Int32) (v1 : Int32) (v2 : sm_MI), PD se1 (F_VM_lost_11 t n v0 v1 v2) := by
  intro n
  induction n with
  | zero => intro v0 v1 v2; exact PD.none
  | succ n ih =>
    intro v0 v1 v2
    show PD se1 (F_VM_lost_11B t (F_VM_lost_11 t n) v0 v1 v2)
    apply P_VM_lost_11B
    all_goals assumption
theorem P_VM_lost {t : Nat} {x1 : Int32} {I : sm_MI} : PD se1 (F_VM_lost t x1 I) := by
  unfold F_VM_lost
  repeat (first | (with_reducible exact PD.inl) | (with_reducible exact PD.none) | (with_reducible exact PD.inr s1_1) | (with_reducible exact PD.inr s0_0) | (with_reducible exact PD.inr s2_0) | (with_reducible exact PD.inr s2_1) | (with_reducible exact PD.inr (by assumption)) | (with_reducible refine PD.ite ?_ ?_) | (with_reducible refine PD.lt (fun _ => ?_)) | (with_reducible refine PD.gu ?_) | (with_reducible refine PD.q1 (fun _ => ?_)) | (with_reducible refine PD.q2 (fun _ _ => ?_)) | (with_reducible refine PD.t1 (P_VM_checkPiece.up (by first | exact s_id | exact s1_s2 | exact s0_s2)) (fun _ => ?_) (fun e he => ?_)) | (with_reducible apply P_VM_lost_11B) | (with_reducible apply P_VM_lost_11) | (with_reducible assumption))
theorem P_VM_gone_18B {t : Nat} {k18 : Int32 → Int32 → sm_MI → Option ((Int32 ⊕ Nat) × sm_MI)} {x1 : Int32} {x2 : Int32} {I : sm_MI} (hk18 : ∀ (y0 : Int32) (y1 : Int32) (y2 : sm_MI), PD se1 (k18 y0 y1 y2)) : PD se1 (F_VM_gone_18B t k18 x1 x2 I) := by
  unfold F_VM_gone_18B
  repeat (first | (with_reducible exact PD.inl) | (with_reducible exact PD.none) | (with_reducible exact PD.inr s1_1) | (with_reducible exact PD.inr s0_0) | (with_reducible exact PD.inr s2_0) | (with_reducible exact PD.inr s2_1) | (with_reducible exact PD.inr (by assumption)) | (with_reducible refine PD.ite ?_ ?_) | (with_reducible refine PD.lt (fun _ => ?_)) | (with_reducible refine PD.gu ?_) | (with_reducible refine PD.q1 (fun _ => ?_)) | (with_reducible refine PD.q2 (fun _ _ => ?_)) | (with_reducible apply hk18) | (with_reducible assumption))
theorem P_VM_gone_18 {t : Nat} : ∀ (n : Nat) (v0 : Int32) (v1 : Int32) (v2 : sm_MI), PD se1 (F_VM_gone_18 t n v0 v1 v2) := by
  intro n
  induction n with
  | zero => intro v0 v1 v2; exact PD.none
  | succ n ih =>
    intro v0 v1 v2
    show PD se1 (F_VM_gone_18B t (F_VM_gone_18 t n) v0 v1 v2)
    apply P_VM_gone_18B
    all_goals assumption
theorem P_VM_gone {t : Nat} {x1 : Int32} {I : sm_MI} : PD se1 (F_VM_gone t x1 I) := by
  unfold F_VM_gone
  repeat (first | (with_reducible exact PD.inl) | (with_reducible exact PD.none) | (with_reducible exact PD.inr s1_1) | (with_reducible exact PD.inr s0_0) | (with_reducible exact PD.inr s2_0) | (with_reducible exact PD.inr s2_1) | (with_reducible exact PD.inr (by assumption)) | (with_reducible refine PD.ite ?_ ?_) | (with_reducible refine PD.lt (fun _ => ?_)) | (with_reducible refine PD.gu ?_) | (with_reducible refine PD.q1 (fun _ => ?_)) | (with_reducible refine PD.q2 (fun _ _ => ?_)) | (with_reducible apply P_VM_gone_18B) | (with_reducible apply P_VM_gone_18) | (with_reducible assumption))
theorem P_VM_game_24B {t : Nat} {k24 : Int32 → Int32 → Int32 → Int32 → sm_MI → Option ((Int32 ⊕ Nat) × sm_MI)} {x1 : Int32} {x2 : Int32} {x3 : Int32} {x4 : Int32} {I : sm_MI} (hk24 : ∀ (y0 : Int32) (y1 : Int32) (y2 : Int32) (y3 : Int32) (y4 : sm_MI), PD se2 (k24 y0 y1 y2 y3 y4)) : PD se2 (F_VM_game_24B t k24 x1 x2 x3 x4 I) := by
  unfold F_VM_game_24B
  repeat (first | (with_reducible exact PD.inl) | (with_reducible exact PD.none) | (with_reducible exact PD.inr s1_1) | (with_reducible exact PD.inr s0_0) | (with_reducible exact PD.inr s2_0) | (with_reducible exact PD.inr s2_1) | (with_reducible exact PD.inr (by assumption)) | (with_reducible refine PD.ite ?_ ?_) | (with_reducible refine PD.lt (fun _ => ?_)) | (with_reducible refine PD.gu ?_) | (with_reducible refine PD.q1 (fun _ => ?_)) | (with_reducible refine PD.q2 (fun _ _ => ?_)) | (with_reducible apply hk24) | (with_reducible assumption))
theorem P_VM_game_24 {t : Nat} : ∀ (n : Nat) (v0 : Int32) (v1 : Int32) (v2 : Int32) (v3 : Int32) (v4 : sm_MI), PD se2 (F_VM_game_24 t n v0 v1 v2 v3 v4) := by
  intro n
  induction n with
  | zero => intro v0 v1 v2 v3 v4; exact PD.none
  | succ n ih =>
    intro v0 v1 v2 v3 v4
    show PD se2 (F_VM_game_24B t (F_VM_game_24 t n) v0 v1 v2 v3 v4)
    apply P_VM_game_24B
    all_goals assumption
theorem P_VM_game {t : Nat} {x1 : Int32} {x2 : Int32} {I : sm_MI} : PD se2 (F_VM_game t x1 x2 I) := by
  unfold F_VM_game
  repeat (first | (with_reducible exact PD.inl) | (with_reducible exact PD.none) | (with_reducible exact PD.inr s1_1) | (with_reducible exact PD.inr s0_0) | (with_reducible exact PD.inr s2_0) | (with_reducible exact PD.inr s2_1) | (with_reducible exact PD.inr (by assumption)) | (with_reducible refine PD.ite ?_ ?_) | (with_reducible refine PD.lt (fun _ => ?_)) | (with_reducible refine PD.gu ?_) | (with_reducible refine PD.q1 (fun _ => ?_)) | (with_reducible refine PD.q2 (fun _ _ => ?_)) | (with_reducible apply P_VM_game_24B) | (with_reducible apply P_VM_game_24) | (with_reducible assumption))
theorem P_VM_wars_55 {t : Nat} {k30 : Int32 → Int32 → Int32 → Int32 → sm_MI → Option ((Int32 ⊕ Nat) × sm_MI)} {x2 : Int32} {x3 : Int32} {x4 : Int32} {x5 : Int32} {I : sm_MI} (hk30 : ∀ (y0 : Int32) (y1 : Int32) (y2 : Int32) (y3 : Int32) (y4 : sm_MI), PD se2 (k30 y0 y1 y2 y3 y4)) : PD se2 (F_VM_wars_55 t k30 x2 x3 x4 x5 I) := by
  unfold F_VM_wars_55
  repeat (first | (with_reducible exact PD.inl) | (with_reducible exact PD.none) | (with_reducible exact PD.inr s1_1) | (with_reducible exact PD.inr s0_0) | (with_reducible exact PD.inr s2_0) | (with_reducible exact PD.inr s2_1) | (with_reducible exact PD.inr (by assumption)) | (with_reducible refine PD.ite ?_ ?_) | (with_reducible refine PD.lt (fun _ => ?_)) | (with_reducible refine PD.gu ?_) | (with_reducible refine PD.q1 (fun _ => ?_)) | (with_reducible refine PD.q2 (fun _ _ => ?_)) | (with_reducible apply hk30) | (with_reducible assumption))
theorem P_VM_wars_30B {t : Nat} {k30 : Int32 → Int32 → Int32 → Int32 → sm_MI → Option ((Int32 ⊕ Nat) × sm_MI)} {x2 : Int32} {x3 : Int32} {x4 : Int32} {x5 : Int32} {I : sm_MI} (hk30 : ∀ (y0 : Int32) (y1 : Int32) (y2 : Int32) (y3 : Int32) (y4 : sm_MI), PD se2 (k30 y0 y1 y2 y3 y4)) : PD se2 (F_VM_wars_30B t k30 x2 x3 x4 x5 I) := by
  unfold F_VM_wars_30B
  repeat (first | (with_reducible exact PD.inl) | (with_reducible exact PD.none) | (with_reducible exact PD.inr s1_1) | (with_reducible exact PD.inr s0_0) | (with_reducible exact PD.inr s2_0) | (with_reducible exact PD.inr s2_1) | (with_reducible exact PD.inr (by assumption)) | (with_reducible refine PD.ite ?_ ?_) | (with_reducible refine PD.lt (fun _ => ?_)) | (with_reducible refine PD.gu ?_) | (with_reducible refine PD.q1 (fun _ => ?_)) | (with_reducible refine PD.q2 (fun _ _ => ?_)) | (with_reducible apply hk30) | (with_reducible apply P_VM_wars_55) | (with_reducible assumption))
theorem P_VM_wars_30 {t : Nat} : ∀ (n : Nat) (v0 : Int32) (v1 : Int32) (v2 : Int32) (v3 : Int32) (v4 : sm_MI), PD se2 (F_VM_wars_30 t n v0 v1 v2 v3 v4) := by
  intro n
  induction n with
  | zero => intro v0 v1 v2 v3 v4; exact PD.none
  | succ n ih =>
    intro v0 v1 v2 v3 v4
    show PD se2 (F_VM_wars_30B t (F_VM_wars_30 t n) v0 v1 v2 v3 v4)
    apply P_VM_wars_30B
    all_goals assumption
theorem P_VM_wars {t : Nat} {x1 : Int32} {x2 : Int32} {x3 : Int32} {I : sm_MI} : PD se2 (F_VM_wars t x1 x2 x3 I) := by
  unfold F_VM_wars
  repeat (first | (with_reducible exact PD.inl) | (with_reducible exact PD.none) | (with_reducible exact PD.inr s1_1) | (with_reducible exact PD.inr s0_0) | (with_reducible exact PD.inr s2_0) | (with_reducible exact PD.inr s2_1) | (with_reducible exact PD.inr (by assumption)) | (with_reducible refine PD.ite ?_ ?_) | (with_reducible refine PD.lt (fun _ => ?_)) | (with_reducible refine PD.gu ?_) | (with_reducible refine PD.q1 (fun _ => ?_)) | (with_reducible refine PD.q2 (fun _ _ => ?_)) | (with_reducible apply P_VM_wars_55) | (with_reducible apply P_VM_wars_30B) | (with_reducible apply P_VM_wars_30) | (with_reducible assumption))
