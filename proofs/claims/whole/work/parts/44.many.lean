/-! ===== many pieces at once ===== -/
/-- the first that is found -/
def fx {γ : Type} (g : Nat → Option γ) : Nat → Nat → Option γ
  | 0, _ => none
  | m + 1, j => match g j with
    | some v => some v
    | none => fx g m (j + 1)
theorem fx_none {γ : Type} {g : Nat → Option γ} : ∀ {m j : Nat}, (∀ i, j ≤ i → i < j + m → g i = none) → fx g m j = none
  | 0, _, _ => rfl
  | m + 1, j, h => by
    rw [fx, h j (by omega) (by omega)]
    exact fx_none (fun i h1 h2 => h i (by omega) (by omega))
theorem fx_to {γ : Type} {g : Nat → Option γ} {e : Nat} : ∀ {m j : Nat}, (∀ i, j + m ≤ i → i < j + m + e → g i = none) → fx g (m + e) j = fx g m j
  | 0, j, h => by
    rw [Nat.zero_add, fx]
    exact fx_none (fun i h1 h2 => h i (by omega) (by omega))
  | m + 1, j, h => by
    rw [show m + 1 + e = (m + e) + 1 by omega, fx, fx]
    cases g j with
    | some v => rfl
    | none => exact fx_to (fun i h1 h2 => h i (by omega) (by omega))
theorem fx_to' {γ : Type} {g : Nat → Option γ} {j n N : Nat} (h : n ≤ N) (hg : ∀ i, j + n ≤ i → i < j + N → g i = none) : fx g N j = fx g n j := by
  obtain ⟨e, rfl⟩ := Nat.le.dest h
  exact fx_to (fun i h1 h2 => hg i h1 (by omega))
theorem fx_congr {γ : Type} {g g' : Nat → Option γ} : ∀ {m j : Nat}, (∀ i, j ≤ i → i < j + m → g i = g' i) → fx g m j = fx g' m j
  | 0, _, _ => rfl
  | m + 1, j, h => by
    rw [fx, fx, h j (by omega) (by omega)]
    cases g' j with
    | some v => rfl
    | none => exact fx_congr (fun i h1 h2 => h i (by omega) (by omega))
def fxv {β γ : Type} (o : Option γ) (V : γ → Option β) (K : Option β) : Option β := match o with
  | some v => V v
  | none => K
theorem lp_fx {β γ : Type} (L : Nat → Int32 → Option β) (g : Nat → Option γ) (V : γ → Option β) (K : Option β) (N j0 : Nat) (h0 : ∀ f, L (f + 1) (nI N) = K)
    (h1 : ∀ f j, j0 ≤ j → j < N → L (f + 1) (nI j) = fxv (g j) V (L f (nI (j + 1)))) : ∀ m j f, j0 ≤ j → j + m = N → m < f → L f (nI j) = fxv (fx g m j) V K
  | 0, j, f, _, hj, hf => by
    obtain ⟨f, rfl⟩ : ∃ g, f = g + 1 := ⟨f - 1, by omega⟩
    have : j = N := by omega
    subst this
    exact h0 f
  | m + 1, j, f, hl, hj, hf => by
    obtain ⟨f, rfl⟩ : ∃ g, f = g + 1 := ⟨f - 1, by omega⟩
    rw [h1 f j hl (by omega), fx]
    cases g j with
    | some v => rfl
    | none => exact lp_fx L g V K N j0 h0 h1 m (j + 1) f (by omega) (by omega) (by omega)
theorem lp_fX {β γ : Type} (L : Nat → Int32 → Option β) (g : Nat → Option γ) (V : γ → Option β) (K : Option β) (N : Nat) (j : Nat) (hj : j ≤ N) (hN : N < 90000) (h0 : ∀ f, L (f + 1) (nI N) = K)
    (h1 : ∀ f i, j ≤ i → i < N → L (f + 1) (nI i) = fxv (g i) V (L f (nI (i + 1)))) : L sd_fu (nI j) = fxv (fx g (N - j) j) V K := lp_fx L g V K N j h0 h1 (N - j) j sd_fu (Nat.le_refl _) (by omega) (by rw [sd_fu_val]; omega)
/-- those who can sing at least one row of some pieces in a part, and how many are wanted -/
def ens (A : sA) (x : Int32) (s k p : Nat) (z : Int32 × Nat) : Int32 × Nat := if bt (nI s) p then (z.1 ||| ab A x (4 * p + k) 0, z.2 + A 6 (4 * p + k)) else z
def enz (A : sA) (x : Int32) (s k : Nat) : Int32 × Nat := itr (ens A x s k) 5 (0, 0)
/-- a part in which they are too few -/
def enf (A : sA) (x : Int32) (s k : Nat) : Option Nat := if (enz A x s k).2 ≤ pc (enz A x s k).1 then none else some k
def enb (A : sA) (x : Int32) (s : Nat) : Option Nat := fx (enf A x s) 4 0
theorem ens_ok {A : sA} {x : Int32} {s k : Nat} (hw : wA A) (hk : k < 4) : ∀ {n : Nat}, n ≤ 5 → lo14 (itr (ens A x s k) n (0, 0)).1 ∧ (itr (ens A x s k) n (0, 0)).2 ≤ 4 * n
  | 0, _ => ⟨lo14_0, Nat.le_refl _⟩
  | n + 1, hn => by
    obtain ⟨h1, h2⟩ := ens_ok (A := A) (x := x) (s := s) (k := k) hw hk (n := n) (by omega)
    rw [itr]
    have h4 := (hw.2.2.2.2.2 (4 * n + k) (by omega)).1
    unfold ens at h1 h2 ⊢
    split
    · exact ⟨lo14_or h1 lo14_ab, by show _ + A 6 (4 * n + k) ≤ _; omega⟩
    · exact ⟨h1, by omega⟩
theorem ens_n {A : sA} (hw : wA A) {x : Int32} {s k p : Nat} {z : Int32 × Nat} (hk : k < 4) (hp : A 0 1 ≤ p) (h5 : p < 5) : ens A x s k p z = z := by
  unfold ens
  have h6 : A 6 (4 * p + k) = 0 := by
    rcases Nat.eq_zero_or_pos (A 6 (4 * p + k)) with e | e
    · exact e
    · have := ((hw.2.2.2.2.2 (4 * p + k) (by omega)).2.2.1 e).1
      omega
  have ha : ab A x (4 * p + k) 0 = 0 := bs_false (fun i _ => by rw [fu_0 h6, Bool.and_false])
  split
  · rw [ha, h6, or0]
    rfl
  · rfl
theorem l32 : (32 : Int32) = nI 32 := nr_ rfl
section QU
variable {A : sA} {R : Nat → List Nat} {t : Nat} {C M : sm_MI}
theorem c_enough (hw : wA A) (hc : cA A t C) {x : Int32} {s : Nat} (hs : s < 32) : F_Choir_enoughFor t x (nI s) C = fxv (enb A x s) (fun _ => some 0) (some 1) := by
  unfold F_Choir_enoughFor enb
  refine lp_fX (fun f j => F_Choir_enoughFor_2 t C f x (nI s) j) (enf A x s) (fun _ => some 0) (some 1) 4 0 (by omega) (by omega) ?_ ?_
  · intro f
    show F_Choir_enoughFor_2B t (F_Choir_enoughFor_2 t C f) x (nI s) (nI 4) C = _
    unfold F_Choir_enoughFor_2B
    simp (disch := omega) only [↓g_in, ↓g_c0, ↓g_c1, ↓reduceIte, ↓y_lt, ↓y_q1, ↓y_q2, ↓sn_q3, ↓sn_t1l, ↓sn_t1r, ↓sn_t2l, ↓sn_t2r, y_q1, y_q2, sn_q3, sn_t1l, sn_t1r, sn_t2l, sn_t2r, nI_clamp, x_leT, x_leF, x_ltT, x_ltF, x_eqT, x_eqF, x_le0T, x_le0F, x_0leT, x_lt0F, x_0ltT, x_0ltF, x_eq0T, x_eq0F, x_le1T, x_le1F, x_1leT, x_1leF, x_1ltT, x_1ltF, x_lt1T, x_lt1F, x_eq1T, x_eq1F, x_m1F, nI_add, nI_1, sn_mul, x_sub, x_sub1, sn_m1, l2, l3, l4, l5, l6, l7, l8, l9, l10, l11, l12, l13, l14, l15, l20, l30, l40, l48, l60, l64, l99, l100, l700, l999, not_true_eq_false, not_false_eq_true, x_t0, x_t1, lts1, x_10, x_1sub, eq_self, Nat.reduceSub, Nat.reduceAdd, Nat.reduceMul]
  · intro f k _ hk
    show F_Choir_enoughFor_2B t (F_Choir_enoughFor_2 t C f) x (nI s) (nI k) C = fxv (enf A x s k) (fun _ => some 0) (F_Choir_enoughFor_2 t C f x (nI s) (nI (k + 1)))
    unfold F_Choir_enoughFor_2B
    simp (disch := omega) only [↓g_in, ↓g_c0, ↓g_c1, ↓reduceIte, ↓y_lt, ↓y_q1, ↓y_q2, ↓sn_q3, ↓sn_t1l, ↓sn_t1r, ↓sn_t2l, ↓sn_t2r, y_q1, y_q2, sn_q3, sn_t1l, sn_t1r, sn_t2l, sn_t2r, nI_clamp, x_leT, x_leF, x_ltT, x_ltF, x_eqT, x_eqF, x_le0T, x_le0F, x_0leT, x_lt0F, x_0ltT, x_0ltF, x_eq0T, x_eq0F, x_le1T, x_le1F, x_1leT, x_1leF, x_1ltT, x_1ltF, x_lt1T, x_lt1F, x_eq1T, x_eq1F, x_m1F, nI_add, nI_1, sn_mul, x_sub, x_sub1, sn_m1, l2, l3, l4, l5, l6, l7, l8, l9, l10, l11, l12, l13, l14, l15, l20, l30, l40, l48, l60, l64, l99, l100, l700, l999, not_true_eq_false, not_false_eq_true, x_t0, x_t1, lts1, x_10, x_1sub, eq_self, Nat.reduceSub, Nat.reduceAdd, Nat.reduceMul]
    have lp := lp_in (fun g j (z : Int32 × Nat) => F_Choir_enoughFor_11 t (F_Choir_enoughFor_2 t C f) C g x (nI s) (nI k) z.1 (nI z.2) j) (fun z => if z.2 ≤ pc z.1 then F_Choir_enoughFor_2 t C f x (nI s) (nI (k + 1)) else some 0) (ens A x s k) (fun j z => z = itr (ens A x s k) j (0, 0)) 5 (0, 0) rfl (by omega) ?_ ?_
    · have lp : F_Choir_enoughFor_11 t (F_Choir_enoughFor_2 t C f) C sd_fu x (nI s) (nI k) 0 0 0 = _ := lp.1
      rw [lp]
      unfold enf enz
      split
      · rfl
      · rfl
    · intro g z hz
      obtain ⟨h1, h2⟩ := ens_ok (A := A) (x := x) (s := s) (k := k) hw hk (n := 5) (by omega)
      rw [← hz] at h1 h2
      have h3 := pc_le z.1
      show F_Choir_enoughFor_11B t (F_Choir_enoughFor_2 t C f) (F_Choir_enoughFor_11 t (F_Choir_enoughFor_2 t C f) C g) x (nI s) (nI k) z.1 (nI z.2) (nI 5) C = _
      unfold F_Choir_enoughFor_11B
      by_cases e : z.2 ≤ pc z.1
      · simp (disch := omega) only [↓g_in, ↓g_c0, ↓g_c1, ↓reduceIte, ↓y_lt, ↓y_q1, ↓y_q2, ↓sn_q3, ↓sn_t1l, ↓sn_t1r, ↓sn_t2l, ↓sn_t2r, y_q1, y_q2, sn_q3, sn_t1l, sn_t1r, sn_t2l, sn_t2r, nI_clamp, x_leT, x_leF, x_ltT, x_ltF, x_eqT, x_eqF, x_le0T, x_le0F, x_0leT, x_lt0F, x_0ltT, x_0ltF, x_eq0T, x_eq0F, x_le1T, x_le1F, x_1leT, x_1leF, x_1ltT, x_1ltF, x_lt1T, x_lt1F, x_eq1T, x_eq1F, x_m1F, nI_add, nI_1, sn_mul, x_sub, x_sub1, sn_m1, l2, l3, l4, l5, l6, l7, l8, l9, l10, l11, l12, l13, l14, l15, l20, l30, l40, l48, l60, l64, l99, l100, l700, l999, not_true_eq_false, not_false_eq_true, x_t0, x_t1, lts1, x_10, x_1sub, eq_self, Nat.reduceSub, Nat.reduceAdd, Nat.reduceMul, int_bc h1, e]
      · simp (disch := omega) only [↓g_in, ↓g_c0, ↓g_c1, ↓reduceIte, ↓y_lt, ↓y_q1, ↓y_q2, ↓sn_q3, ↓sn_t1l, ↓sn_t1r, ↓sn_t2l, ↓sn_t2r, y_q1, y_q2, sn_q3, sn_t1l, sn_t1r, sn_t2l, sn_t2r, nI_clamp, x_leT, x_leF, x_ltT, x_ltF, x_eqT, x_eqF, x_le0T, x_le0F, x_0leT, x_lt0F, x_0ltT, x_0ltF, x_eq0T, x_eq0F, x_le1T, x_le1F, x_1leT, x_1leF, x_1ltT, x_1ltF, x_lt1T, x_lt1F, x_eq1T, x_eq1F, x_m1F, nI_add, nI_1, sn_mul, x_sub, x_sub1, sn_m1, l2, l3, l4, l5, l6, l7, l8, l9, l10, l11, l12, l13, l14, l15, l20, l30, l40, l48, l60, l64, l99, l100, l700, l999, not_true_eq_false, not_false_eq_true, x_t0, x_t1, lts1, x_10, x_1sub, eq_self, Nat.reduceSub, Nat.reduceAdd, Nat.reduceMul, int_bc h1, e]
    · intro g j z hj hz
      refine ⟨by rw [itr, ← hz], ?_⟩
      have hr : 4 * j + k < 20 := by omega
      have q1 := (hc.2.2.2.2.1 (4 * j + k) hr).1
      show F_Choir_enoughFor_11B t (F_Choir_enoughFor_2 t C f) (F_Choir_enoughFor_11 t (F_Choir_enoughFor_2 t C f) C g) x (nI s) (nI k) z.1 (nI z.2) (nI j) C = F_Choir_enoughFor_11 t (F_Choir_enoughFor_2 t C f) C g x (nI s) (nI k) (ens A x s k j z).1 (nI (ens A x s k j z).2) (nI (j + 1))
      unfold F_Choir_enoughFor_11B ens
      cases e : bt (nI s) j
      · simp (disch := omega) only [↓g_in, ↓g_c0, ↓g_c1, ↓reduceIte, ↓y_lt, ↓y_q1, ↓y_q2, ↓sn_q3, ↓sn_t1l, ↓sn_t1r, ↓sn_t2l, ↓sn_t2r, y_q1, y_q2, sn_q3, sn_t1l, sn_t1r, sn_t2l, sn_t2r, nI_clamp, x_leT, x_leF, x_ltT, x_ltF, x_eqT, x_eqF, x_le0T, x_le0F, x_0leT, x_lt0F, x_0ltT, x_0ltF, x_eq0T, x_eq0F, x_le1T, x_le1F, x_1leT, x_1leF, x_1ltT, x_1ltF, x_lt1T, x_lt1F, x_eq1T, x_eq1F, x_m1F, nI_add, nI_1, sn_mul, x_sub, x_sub1, sn_m1, l2, l3, l4, l5, l6, l7, l8, l9, l10, l11, l12, l13, l14, l15, l20, l30, l40, l48, l60, l64, l99, l100, l700, l999, not_true_eq_false, not_false_eq_true, x_t0, x_t1, lts1, x_10, x_1sub, eq_self, Nat.reduceSub, Nat.reduceAdd, Nat.reduceMul, e, Bool.false_eq_true]
      · simp (disch := omega) only [↓g_in, ↓g_c0, ↓g_c1, ↓reduceIte, ↓y_lt, ↓y_q1, ↓y_q2, ↓sn_q3, ↓sn_t1l, ↓sn_t1r, ↓sn_t2l, ↓sn_t2r, y_q1, y_q2, sn_q3, sn_t1l, sn_t1r, sn_t2l, sn_t2r, nI_clamp, x_leT, x_leF, x_ltT, x_ltF, x_eqT, x_eqF, x_le0T, x_le0F, x_0leT, x_lt0F, x_0ltT, x_0ltF, x_eq0T, x_eq0F, x_le1T, x_le1F, x_1leT, x_1leF, x_1ltT, x_1ltF, x_lt1T, x_lt1F, x_eq1T, x_eq1F, x_m1F, nI_add, nI_1, sn_mul, x_sub, x_sub1, sn_m1, l2, l3, l4, l5, l6, l7, l8, l9, l10, l11, l12, l13, l14, l15, l20, l30, l40, l48, l60, l64, l99, l100, l700, l999, not_true_eq_false, not_false_eq_true, x_t0, x_t1, lts1, x_10, x_1sub, eq_self, Nat.reduceSub, Nat.reduceAdd, Nat.reduceMul, e, Bool.true_eq_false, Nat.mul_comm j 4, q1, ab_fit hc hr]
/-- pieces that can't be had at once: some of them for which there are too few -/
def sub (s b : Nat) : Bool := decide (nI s &&& nI b = nI s)
def tgf (A : sA) (x : Int32) (b s : Nat) : Option Nat := if sub s b then enb A x s else none
def tgb (A : sA) (x : Int32) (b : Nat) : Option Nat := fx (tgf A x b) 31 1
def allc (A : sA) (x : Int32) (b : Nat) : Bool := al (fun p => !bt (nI b) p || cs A x p 0) 5 0
def tog (A : sA) (x : Int32) (b : Nat) : Bool := allc A x b && (tgb A x b).isNone
theorem bt5k : ∀ b, b < 32 → ∀ i, i < 27 → bt (nI b) (i + 5) = false := by decide +kernel
theorem bt5 (b : Nat) (hb : b < 32) (i : Nat) (h5 : 5 ≤ i) (hi : i < 32) : bt (nI b) i = false := by
  have := bt5k b hb (i - 5) (by omega)
  rwa [show i - 5 + 5 = i by omega] at this
theorem sg_all {x : Int32} {b : Nat} (hb : b < 32) : (sg A x &&& nI b = nI b) = (allc A x b = true) := by
  apply propext
  unfold allc
  rw [al_iff]
  constructor
  · intro h i h1 h2
    have h3 := congrArg (fun z => bt z i) h
    simp only [b_and] at h3
    rw [bt_sg (by omega)] at h3
    cases e : bt (nI b) i
    · rfl
    · rw [e] at h3
      simpa using h3
  · intro h
    apply b_ext
    intro i hi
    rw [b_and]
    by_cases h5 : i < 5
    · rw [bt_sg h5]
      have := h i (by omega) (by omega)
      cases e : bt (nI b) i
      · simp
      · rw [e] at this; simpa using this
    · rw [bt5 b hb i (by omega) hi, Bool.and_false]
theorem c_together (hw : wA A) (hc : cA A t C) {x : Int32} {b : Nat} (hb : b < 32) : F_Choir_together t x (nI b) C = some (if tog A x b then 1 else 0) := by
  unfold F_Choir_together
  simp (disch := omega) only [↓g_in, ↓g_c0, ↓g_c1, ↓reduceIte, ↓y_lt, ↓y_q1, ↓y_q2, ↓sn_q3, ↓sn_t1l, ↓sn_t1r, ↓sn_t2l, ↓sn_t2r, y_q1, y_q2, sn_q3, sn_t1l, sn_t1r, sn_t2l, sn_t2r, nI_clamp, x_leT, x_leF, x_ltT, x_ltF, x_eqT, x_eqF, x_le0T, x_le0F, x_0leT, x_lt0F, x_0ltT, x_0ltF, x_eq0T, x_eq0F, x_le1T, x_le1F, x_1leT, x_1leF, x_1ltT, x_1ltF, x_lt1T, x_lt1F, x_eq1T, x_eq1F, x_m1F, nI_add, nI_1, sn_mul, x_sub, x_sub1, sn_m1, l2, l3, l4, l5, l6, l7, l8, l9, l10, l11, l12, l13, l14, l15, l20, l30, l40, l48, l60, l64, l99, l100, l700, l999, not_true_eq_false, not_false_eq_true, x_t0, x_t1, lts1, x_10, x_1sub, eq_self, Nat.reduceSub, Nat.reduceAdd, Nat.reduceMul, c_singable hw hc, sg_all hb]
  unfold tog
  cases e : allc A x b
  · rfl
  · rw [if_pos rfl, Bool.true_and]
    have lp := lp_fX (fun f j => F_Choir_together_11 t C f x (nI b) j) (tgf A x b) (fun _ => some 0) (some 1) 32 1 (by omega) (by omega) ?_ ?_
    · have lp : F_Choir_together_11 t C sd_fu x (nI b) 1 = _ := lp
      rw [lp]
      unfold tgb
      cases fx (tgf A x b) 31 1 <;> rfl
    · intro f
      show F_Choir_together_11B t (F_Choir_together_11 t C f) x (nI b) (nI 32) C = _
      unfold F_Choir_together_11B
      simp (disch := omega) only [↓g_in, ↓g_c0, ↓g_c1, ↓reduceIte, ↓y_lt, ↓y_q1, ↓y_q2, ↓sn_q3, ↓sn_t1l, ↓sn_t1r, ↓sn_t2l, ↓sn_t2r, y_q1, y_q2, sn_q3, sn_t1l, sn_t1r, sn_t2l, sn_t2r, nI_clamp, x_leT, x_leF, x_ltT, x_ltF, x_eqT, x_eqF, x_le0T, x_le0F, x_0leT, x_lt0F, x_0ltT, x_0ltF, x_eq0T, x_eq0F, x_le1T, x_le1F, x_1leT, x_1leF, x_1ltT, x_1ltF, x_lt1T, x_lt1F, x_eq1T, x_eq1F, x_m1F, nI_add, nI_1, sn_mul, x_sub, x_sub1, sn_m1, l2, l3, l4, l5, l6, l7, l8, l9, l10, l11, l12, l13, l14, l15, l20, l30, l40, l48, l60, l64, l99, l100, l700, l999, not_true_eq_false, not_false_eq_true, x_t0, x_t1, lts1, x_10, x_1sub, eq_self, Nat.reduceSub, Nat.reduceAdd, Nat.reduceMul, l32]
    · intro f s _ hs
      show F_Choir_together_11B t (F_Choir_together_11 t C f) x (nI b) (nI s) C = fxv (tgf A x b s) (fun _ => some 0) (F_Choir_together_11 t C f x (nI b) (nI (s + 1)))
      unfold F_Choir_together_11B tgf sub
      by_cases e1 : nI s &&& nI b = nI s
      · simp (disch := omega) only [↓g_in, ↓g_c0, ↓g_c1, ↓reduceIte, ↓y_lt, ↓y_q1, ↓y_q2, ↓sn_q3, ↓sn_t1l, ↓sn_t1r, ↓sn_t2l, ↓sn_t2r, y_q1, y_q2, sn_q3, sn_t1l, sn_t1r, sn_t2l, sn_t2r, nI_clamp, x_leT, x_leF, x_ltT, x_ltF, x_eqT, x_eqF, x_le0T, x_le0F, x_0leT, x_lt0F, x_0ltT, x_0ltF, x_eq0T, x_eq0F, x_le1T, x_le1F, x_1leT, x_1leF, x_1ltT, x_1ltF, x_lt1T, x_lt1F, x_eq1T, x_eq1F, x_m1F, nI_add, nI_1, sn_mul, x_sub, x_sub1, sn_m1, l2, l3, l4, l5, l6, l7, l8, l9, l10, l11, l12, l13, l14, l15, l20, l30, l40, l48, l60, l64, l99, l100, l700, l999, not_true_eq_false, not_false_eq_true, x_t0, x_t1, lts1, x_10, x_1sub, eq_self, Nat.reduceSub, Nat.reduceAdd, Nat.reduceMul, l32, e1, decide_true, c_enough hw hc hs]
        cases enb A x s <;> rfl
      · simp (disch := omega) only [↓g_in, ↓g_c0, ↓g_c1, ↓reduceIte, ↓y_lt, ↓y_q1, ↓y_q2, ↓sn_q3, ↓sn_t1l, ↓sn_t1r, ↓sn_t2l, ↓sn_t2r, y_q1, y_q2, sn_q3, sn_t1l, sn_t1r, sn_t2l, sn_t2r, nI_clamp, x_leT, x_leF, x_ltT, x_ltF, x_eqT, x_eqF, x_le0T, x_le0F, x_0leT, x_lt0F, x_0ltT, x_0ltF, x_eq0T, x_eq0F, x_le1T, x_le1F, x_1leT, x_1leF, x_1ltT, x_1ltF, x_lt1T, x_lt1F, x_eq1T, x_eq1F, x_m1F, nI_add, nI_1, sn_mul, x_sub, x_sub1, sn_m1, l2, l3, l4, l5, l6, l7, l8, l9, l10, l11, l12, l13, l14, l15, l20, l30, l40, l48, l60, l64, l99, l100, l700, l999, not_true_eq_false, not_false_eq_true, x_t0, x_t1, lts1, x_10, x_1sub, eq_self, Nat.reduceSub, Nat.reduceAdd, Nat.reduceMul, l32, e1, decide_false, Bool.false_eq_true]
        rfl
theorem m_areAt43 (hw : wA A) (hm : mA A M) {x y : Int32} {s : Nat} (hs : s < 32) (k31 : Int32 → Int32 → Int32 → Option Int32) : F_Mo_areAtOnce_43 k31 M sd_fu y x (nI s) 0 = fxv (enb A x s) (fun _ => some 0) (k31 y x (nI (s + 1))) := by
  have w2 := hw.2.1
  unfold enb
  refine lp_fX (fun f j => F_Mo_areAtOnce_43 k31 M f y x (nI s) j) (enf A x s) (fun _ => some 0) (k31 y x (nI (s + 1))) 4 0 (by omega) (by omega) ?_ ?_
  · intro f
    show F_Mo_areAtOnce_43B k31 (F_Mo_areAtOnce_43 k31 M f) y x (nI s) (nI 4) M = _
    unfold F_Mo_areAtOnce_43B
    simp (disch := omega) only [↓g_in, ↓g_c0, ↓g_c1, ↓reduceIte, ↓y_lt, ↓y_q1, ↓y_q2, ↓sn_q3, ↓sn_t1l, ↓sn_t1r, ↓sn_t2l, ↓sn_t2r, y_q1, y_q2, sn_q3, sn_t1l, sn_t1r, sn_t2l, sn_t2r, nI_clamp, x_leT, x_leF, x_ltT, x_ltF, x_eqT, x_eqF, x_le0T, x_le0F, x_0leT, x_lt0F, x_0ltT, x_0ltF, x_eq0T, x_eq0F, x_le1T, x_le1F, x_1leT, x_1leF, x_1ltT, x_1ltF, x_lt1T, x_lt1F, x_eq1T, x_eq1F, x_m1F, nI_add, nI_1, sn_mul, x_sub, x_sub1, sn_m1, l2, l3, l4, l5, l6, l7, l8, l9, l10, l11, l12, l13, l14, l15, l20, l30, l40, l48, l60, l64, l99, l100, l700, l999, not_true_eq_false, not_false_eq_true, x_t0, x_t1, lts1, x_10, x_1sub, eq_self, Nat.reduceSub, Nat.reduceAdd, Nat.reduceMul]
  · intro f k _ hk
    show F_Mo_areAtOnce_43B k31 (F_Mo_areAtOnce_43 k31 M f) y x (nI s) (nI k) M = fxv (enf A x s k) (fun _ => some 0) (F_Mo_areAtOnce_43 k31 M f y x (nI s) (nI (k + 1)))
    unfold F_Mo_areAtOnce_43B
    simp (disch := omega) only [↓g_in, ↓g_c0, ↓g_c1, ↓reduceIte, ↓y_lt, ↓y_q1, ↓y_q2, ↓sn_q3, ↓sn_t1l, ↓sn_t1r, ↓sn_t2l, ↓sn_t2r, y_q1, y_q2, sn_q3, sn_t1l, sn_t1r, sn_t2l, sn_t2r, nI_clamp, x_leT, x_leF, x_ltT, x_ltF, x_eqT, x_eqF, x_le0T, x_le0F, x_0leT, x_lt0F, x_0ltT, x_0ltF, x_eq0T, x_eq0F, x_le1T, x_le1F, x_1leT, x_1leF, x_1ltT, x_1ltF, x_lt1T, x_lt1F, x_eq1T, x_eq1F, x_m1F, nI_add, nI_1, sn_mul, x_sub, x_sub1, sn_m1, l2, l3, l4, l5, l6, l7, l8, l9, l10, l11, l12, l13, l14, l15, l20, l30, l40, l48, l60, l64, l99, l100, l700, l999, not_true_eq_false, not_false_eq_true, x_t0, x_t1, lts1, x_10, x_1sub, eq_self, Nat.reduceSub, Nat.reduceAdd, Nat.reduceMul]
    have lp := lp_in (fun g j (z : Int32 × Nat) => F_Mo_areAtOnce_52 (F_Mo_areAtOnce_43 k31 M f) M g y x (nI s) (nI k) z.1 (nI z.2) j) (fun z => if z.2 ≤ pc z.1 then F_Mo_areAtOnce_43 k31 M f y x (nI s) (nI (k + 1)) else some 0) (ens A x s k) (fun j z => z = itr (ens A x s k) j (0, 0)) (A 0 1) (0, 0) rfl (by omega) ?_ ?_
    · have lp : F_Mo_areAtOnce_52 (F_Mo_areAtOnce_43 k31 M f) M sd_fu y x (nI s) (nI k) 0 0 0 = _ := lp.1
      rw [lp]
      unfold enf enz
      rw [itr_to (n := A 0 1) w2 (fun j z h1 h2 => ens_n hw hk h1 h2)]
      split
      · rfl
      · rfl
    · intro g z hz
      obtain ⟨h1, h2⟩ := ens_ok (A := A) (x := x) (s := s) (k := k) hw hk (n := A 0 1) w2
      rw [← hz] at h1 h2
      have h3 := pc_le z.1
      show F_Mo_areAtOnce_52B (F_Mo_areAtOnce_43 k31 M f) (F_Mo_areAtOnce_52 (F_Mo_areAtOnce_43 k31 M f) M g) y x (nI s) (nI k) z.1 (nI z.2) (nI (A 0 1)) M = _
      unfold F_Mo_areAtOnce_52B
      by_cases e : z.2 ≤ pc z.1
      · simp (disch := omega) only [↓g_in, ↓g_c0, ↓g_c1, ↓reduceIte, ↓y_lt, ↓y_q1, ↓y_q2, ↓sn_q3, ↓sn_t1l, ↓sn_t1r, ↓sn_t2l, ↓sn_t2r, y_q1, y_q2, sn_q3, sn_t1l, sn_t1r, sn_t2l, sn_t2r, nI_clamp, x_leT, x_leF, x_ltT, x_ltF, x_eqT, x_eqF, x_le0T, x_le0F, x_0leT, x_lt0F, x_0ltT, x_0ltF, x_eq0T, x_eq0F, x_le1T, x_le1F, x_1leT, x_1leF, x_1ltT, x_1ltF, x_lt1T, x_lt1F, x_eq1T, x_eq1F, x_m1F, nI_add, nI_1, sn_mul, x_sub, x_sub1, sn_m1, l2, l3, l4, l5, l6, l7, l8, l9, l10, l11, l12, l13, l14, l15, l20, l30, l40, l48, l60, l64, l99, l100, l700, l999, not_true_eq_false, not_false_eq_true, x_t0, x_t1, lts1, x_10, x_1sub, eq_self, Nat.reduceSub, Nat.reduceAdd, Nat.reduceMul, hm.2.1, mo_bits, e]
      · simp (disch := omega) only [↓g_in, ↓g_c0, ↓g_c1, ↓reduceIte, ↓y_lt, ↓y_q1, ↓y_q2, ↓sn_q3, ↓sn_t1l, ↓sn_t1r, ↓sn_t2l, ↓sn_t2r, y_q1, y_q2, sn_q3, sn_t1l, sn_t1r, sn_t2l, sn_t2r, nI_clamp, x_leT, x_leF, x_ltT, x_ltF, x_eqT, x_eqF, x_le0T, x_le0F, x_0leT, x_lt0F, x_0ltT, x_0ltF, x_eq0T, x_eq0F, x_le1T, x_le1F, x_1leT, x_1leF, x_1ltT, x_1ltF, x_lt1T, x_lt1F, x_eq1T, x_eq1F, x_m1F, nI_add, nI_1, sn_mul, x_sub, x_sub1, sn_m1, l2, l3, l4, l5, l6, l7, l8, l9, l10, l11, l12, l13, l14, l15, l20, l30, l40, l48, l60, l64, l99, l100, l700, l999, not_true_eq_false, not_false_eq_true, x_t0, x_t1, lts1, x_10, x_1sub, eq_self, Nat.reduceSub, Nat.reduceAdd, Nat.reduceMul, hm.2.1, mo_bits, e]
    · intro g j z hj hz
      refine ⟨by rw [itr, ← hz], ?_⟩
      have hr : 4 * j + k < 20 := by omega
      have q1 := (hm.2.2.2.2 (4 * j + k) hr).1
      have e9 := mo_ableOf (A := A) (I := M) (r := 4 * j + k) (x := x) (u := 0) hw hm (by omega) (by decide)
      have e9 : F_Mo_ableOf x (nI (4 * j + k)) 0 M = some (ab A x (4 * j + k) 0) := e9
      show F_Mo_areAtOnce_52B (F_Mo_areAtOnce_43 k31 M f) (F_Mo_areAtOnce_52 (F_Mo_areAtOnce_43 k31 M f) M g) y x (nI s) (nI k) z.1 (nI z.2) (nI j) M = F_Mo_areAtOnce_52 (F_Mo_areAtOnce_43 k31 M f) M g y x (nI s) (nI k) (ens A x s k j z).1 (nI (ens A x s k j z).2) (nI (j + 1))
      unfold F_Mo_areAtOnce_52B ens
      cases e : bt (nI s) j
      · simp (disch := omega) only [↓g_in, ↓g_c0, ↓g_c1, ↓reduceIte, ↓y_lt, ↓y_q1, ↓y_q2, ↓sn_q3, ↓sn_t1l, ↓sn_t1r, ↓sn_t2l, ↓sn_t2r, y_q1, y_q2, sn_q3, sn_t1l, sn_t1r, sn_t2l, sn_t2r, nI_clamp, x_leT, x_leF, x_ltT, x_ltF, x_eqT, x_eqF, x_le0T, x_le0F, x_0leT, x_lt0F, x_0ltT, x_0ltF, x_eq0T, x_eq0F, x_le1T, x_le1F, x_1leT, x_1leF, x_1ltT, x_1ltF, x_lt1T, x_lt1F, x_eq1T, x_eq1F, x_m1F, nI_add, nI_1, sn_mul, x_sub, x_sub1, sn_m1, l2, l3, l4, l5, l6, l7, l8, l9, l10, l11, l12, l13, l14, l15, l20, l30, l40, l48, l60, l64, l99, l100, l700, l999, not_true_eq_false, not_false_eq_true, x_t0, x_t1, lts1, x_10, x_1sub, eq_self, Nat.reduceSub, Nat.reduceAdd, Nat.reduceMul, hm.2.1, e, Bool.false_eq_true]
      · simp (disch := omega) only [↓g_in, ↓g_c0, ↓g_c1, ↓reduceIte, ↓y_lt, ↓y_q1, ↓y_q2, ↓sn_q3, ↓sn_t1l, ↓sn_t1r, ↓sn_t2l, ↓sn_t2r, y_q1, y_q2, sn_q3, sn_t1l, sn_t1r, sn_t2l, sn_t2r, nI_clamp, x_leT, x_leF, x_ltT, x_ltF, x_eqT, x_eqF, x_le0T, x_le0F, x_0leT, x_lt0F, x_0ltT, x_0ltF, x_eq0T, x_eq0F, x_le1T, x_le1F, x_1leT, x_1leF, x_1ltT, x_1ltF, x_lt1T, x_lt1F, x_eq1T, x_eq1F, x_m1F, nI_add, nI_1, sn_mul, x_sub, x_sub1, sn_m1, l2, l3, l4, l5, l6, l7, l8, l9, l10, l11, l12, l13, l14, l15, l20, l30, l40, l48, l60, l64, l99, l100, l700, l999, not_true_eq_false, not_false_eq_true, x_t0, x_t1, lts1, x_10, x_1sub, eq_self, Nat.reduceSub, Nat.reduceAdd, Nat.reduceMul, hm.2.1, e, Bool.true_eq_false, q1, e9]
theorem sub_m : ∀ b, b < 32 → ∀ s, s < 32 → (nI s &&& (nI b ^^^ -1) = 0 ↔ nI s &&& nI b = nI s) := by decide +kernel
theorem sub_lt : ∀ b, b < 32 → ∀ s, s < 32 → b < s → ¬ nI s &&& nI b = nI s := by decide +kernel
theorem al_to {p : Nat → Bool} {n N j : Nat} (h : n ≤ N) (hp : ∀ i, j + n ≤ i → i < j + N → p i = true) : al p N j = al p n j := by
  rw [Bool.eq_iff_iff, al_iff, al_iff]
  constructor
  · intro h1 i h2 h3
    exact h1 i h2 (by omega)
  · intro h1 i h2 h3
    by_cases e : i < j + n
    · exact h1 i h2 e
    · exact hp i (by omega) h3
theorem fx_al {p : Nat → Bool} : ∀ {m j : Nat}, (fx (fun i => if p i then none else some ()) m j).isNone = al p m j
  | 0, _ => rfl
  | m + 1, j => by
    rw [fx, al]
    cases p j
    · rfl
    · simp only [↓reduceIte, Bool.true_and]; exact fx_al
theorem m_areAtOnce (hw : wA A) (hm : mA A M) {c : Nat → Int32} (hst : stR (A 0 0) (M 86) c) {b : Nat} (hb : b < 32) (hin : ∀ i, A 0 1 ≤ i → i < 5 → bt (nI b) i = false) : F_Mo_areAtOnce (nI b) M = some (if tog A (c 0) b then 1 else 0) := by
  have w2 := hw.2.1
  unfold F_Mo_areAtOnce
  simp (disch := omega) only [↓g_in, ↓g_c0, ↓g_c1, ↓reduceIte, ↓y_lt, ↓y_q1, ↓y_q2, ↓sn_q3, ↓sn_t1l, ↓sn_t1r, ↓sn_t2l, ↓sn_t2r, y_q1, y_q2, sn_q3, sn_t1l, sn_t1r, sn_t2l, sn_t2r, nI_clamp, x_leT, x_leF, x_ltT, x_ltF, x_eqT, x_eqF, x_le0T, x_le0F, x_0leT, x_lt0F, x_0ltT, x_0ltF, x_eq0T, x_eq0F, x_le1T, x_le1F, x_1leT, x_1leF, x_1ltT, x_1ltF, x_lt1T, x_lt1F, x_eq1T, x_eq1F, x_m1F, nI_add, nI_1, sn_mul, x_sub, x_sub1, sn_m1, l2, l3, l4, l5, l6, l7, l8, l9, l10, l11, l12, l13, l14, l15, l20, l30, l40, l48, l60, l64, l99, l100, l700, l999, not_true_eq_false, not_false_eq_true, x_t0, x_t1, lts1, x_10, x_1sub, eq_self, Nat.reduceSub, Nat.reduceAdd, Nat.reduceMul, ↓q1_of (mo_so0 hw hm hst)]
  have fin : F_Mo_areAtOnce_31 M sd_fu (nI b) (c 0) 1 = some (if (tgb A (c 0) b).isNone then 1 else 0) := by
    have lp := lp_fX (fun f j => F_Mo_areAtOnce_31 M f (nI b) (c 0) j) (tgf A (c 0) b) (fun _ => some 0) (some 1) (b + 1) 1 (by omega) (by omega) ?_ ?_
    · have lp : F_Mo_areAtOnce_31 M sd_fu (nI b) (c 0) 1 = _ := lp
      rw [lp]
      unfold tgb
      rw [fx_to' (n := b + 1 - 1) (N := 31) (by omega) (fun i h1 h2 => by unfold tgf sub; rw [decide_eq_false (sub_lt b hb i (by omega) (by omega))]; rfl)]
      cases fx (tgf A (c 0) b) (b + 1 - 1) 1 <;> rfl
    · intro f
      show F_Mo_areAtOnce_31B (F_Mo_areAtOnce_31 M f) (nI b) (c 0) (nI (b + 1)) M = _
      unfold F_Mo_areAtOnce_31B
      simp (disch := omega) only [↓g_in, ↓g_c0, ↓g_c1, ↓reduceIte, ↓y_lt, ↓y_q1, ↓y_q2, ↓sn_q3, ↓sn_t1l, ↓sn_t1r, ↓sn_t2l, ↓sn_t2r, y_q1, y_q2, sn_q3, sn_t1l, sn_t1r, sn_t2l, sn_t2r, nI_clamp, x_leT, x_leF, x_ltT, x_ltF, x_eqT, x_eqF, x_le0T, x_le0F, x_0leT, x_lt0F, x_0ltT, x_0ltF, x_eq0T, x_eq0F, x_le1T, x_le1F, x_1leT, x_1leF, x_1ltT, x_1ltF, x_lt1T, x_lt1F, x_eq1T, x_eq1F, x_m1F, nI_add, nI_1, sn_mul, x_sub, x_sub1, sn_m1, l2, l3, l4, l5, l6, l7, l8, l9, l10, l11, l12, l13, l14, l15, l20, l30, l40, l48, l60, l64, l99, l100, l700, l999, not_true_eq_false, not_false_eq_true, x_t0, x_t1, lts1, x_10, x_1sub, eq_self, Nat.reduceSub, Nat.reduceAdd, Nat.reduceMul]
    · intro f s _ hs
      show F_Mo_areAtOnce_31B (F_Mo_areAtOnce_31 M f) (nI b) (c 0) (nI s) M = fxv (tgf A (c 0) b s) (fun _ => some 0) (F_Mo_areAtOnce_31 M f (nI b) (c 0) (nI (s + 1)))
      unfold F_Mo_areAtOnce_31B tgf sub
      have e0 := sub_m b hb s (by omega)
      by_cases e1 : nI s &&& nI b = nI s
      · simp (disch := omega) only [↓g_in, ↓g_c0, ↓g_c1, ↓reduceIte, ↓y_lt, ↓y_q1, ↓y_q2, ↓sn_q3, ↓sn_t1l, ↓sn_t1r, ↓sn_t2l, ↓sn_t2r, y_q1, y_q2, sn_q3, sn_t1l, sn_t1r, sn_t2l, sn_t2r, nI_clamp, x_leT, x_leF, x_ltT, x_ltF, x_eqT, x_eqF, x_le0T, x_le0F, x_0leT, x_lt0F, x_0ltT, x_0ltF, x_eq0T, x_eq0F, x_le1T, x_le1F, x_1leT, x_1leF, x_1ltT, x_1ltF, x_lt1T, x_lt1F, x_eq1T, x_eq1F, x_m1F, nI_add, nI_1, sn_mul, x_sub, x_sub1, sn_m1, l2, l3, l4, l5, l6, l7, l8, l9, l10, l11, l12, l13, l14, l15, l20, l30, l40, l48, l60, l64, l99, l100, l700, l999, not_true_eq_false, not_false_eq_true, x_t0, x_t1, lts1, x_10, x_1sub, eq_self, Nat.reduceSub, Nat.reduceAdd, Nat.reduceMul, e0.mpr e1, e1, decide_true, m_areAt43 hw hm (show s < 32 by omega)]
      · have e2 : (nI s &&& (nI b ^^^ -1) = 0) = False := eq_false (fun z => e1 (e0.mp z))
        simp (disch := omega) only [↓g_in, ↓g_c0, ↓g_c1, ↓reduceIte, ↓y_lt, ↓y_q1, ↓y_q2, ↓sn_q3, ↓sn_t1l, ↓sn_t1r, ↓sn_t2l, ↓sn_t2r, y_q1, y_q2, sn_q3, sn_t1l, sn_t1r, sn_t2l, sn_t2r, nI_clamp, x_leT, x_leF, x_ltT, x_ltF, x_eqT, x_eqF, x_le0T, x_le0F, x_0leT, x_lt0F, x_0ltT, x_0ltF, x_eq0T, x_eq0F, x_le1T, x_le1F, x_1leT, x_1leF, x_1ltT, x_1ltF, x_lt1T, x_lt1F, x_eq1T, x_eq1F, x_m1F, nI_add, nI_1, sn_mul, x_sub, x_sub1, sn_m1, l2, l3, l4, l5, l6, l7, l8, l9, l10, l11, l12, l13, l14, l15, l20, l30, l40, l48, l60, l64, l99, l100, l700, l999, not_true_eq_false, not_false_eq_true, x_t0, x_t1, lts1, x_10, x_1sub, eq_self, Nat.reduceSub, Nat.reduceAdd, Nat.reduceMul, e2, e1, decide_false, Bool.false_eq_true]
        rfl
  have lp := lp_fX (fun f j => F_Mo_areAtOnce_8 M f (nI b) (c 0) j) (fun p => if (!bt (nI b) p || cs A (c 0) p 0) then none else some ()) (fun _ => some 0) (F_Mo_areAtOnce_31 M sd_fu (nI b) (c 0) 1) (A 0 1) 0 (by omega) (by omega) ?_ ?_
  · have lp : F_Mo_areAtOnce_8 M sd_fu (nI b) (c 0) 0 = _ := lp
    rw [lp, fin]
    unfold tog allc
    rw [al_to (n := A 0 1) w2 (fun i h1 h2 => by rw [hin i (by omega) (by omega)]; rfl), ← fx_al, Nat.sub_zero]
    cases fx (fun p => if (!bt (nI b) p || cs A (c 0) p 0) then none else some ()) (A 0 1) 0 <;> rfl
  · intro f
    show F_Mo_areAtOnce_8B (F_Mo_areAtOnce_8 M f) (nI b) (c 0) (nI (A 0 1)) M = _
    unfold F_Mo_areAtOnce_8B
    simp (disch := omega) only [↓g_in, ↓g_c0, ↓g_c1, ↓reduceIte, ↓y_lt, ↓y_q1, ↓y_q2, ↓sn_q3, ↓sn_t1l, ↓sn_t1r, ↓sn_t2l, ↓sn_t2r, y_q1, y_q2, sn_q3, sn_t1l, sn_t1r, sn_t2l, sn_t2r, nI_clamp, x_leT, x_leF, x_ltT, x_ltF, x_eqT, x_eqF, x_le0T, x_le0F, x_0leT, x_lt0F, x_0ltT, x_0ltF, x_eq0T, x_eq0F, x_le1T, x_le1F, x_1leT, x_1leF, x_1ltT, x_1ltF, x_lt1T, x_lt1F, x_eq1T, x_eq1F, x_m1F, nI_add, nI_1, sn_mul, x_sub, x_sub1, sn_m1, l2, l3, l4, l5, l6, l7, l8, l9, l10, l11, l12, l13, l14, l15, l20, l30, l40, l48, l60, l64, l99, l100, l700, l999, not_true_eq_false, not_false_eq_true, x_t0, x_t1, lts1, x_10, x_1sub, eq_self, Nat.reduceSub, Nat.reduceAdd, Nat.reduceMul, hm.2.1]
  · intro f p _ hp
    have em := mo_canBeSung (p := p) (x := c 0) (u := 0) hw hm (by omega) (by decide)
    have em : F_Mo_canBeSung (c 0) (nI p) 0 M = some (if cs A (c 0) p 0 = true then 1 else 0) := em
    show F_Mo_areAtOnce_8B (F_Mo_areAtOnce_8 M f) (nI b) (c 0) (nI p) M = fxv (if (!bt (nI b) p || cs A (c 0) p 0) then none else some ()) (fun _ => some 0) (F_Mo_areAtOnce_8 M f (nI b) (c 0) (nI (p + 1)))
    unfold F_Mo_areAtOnce_8B
    cases e1 : bt (nI b) p
    · simp (disch := omega) only [↓g_in, ↓g_c0, ↓g_c1, ↓reduceIte, ↓y_lt, ↓y_q1, ↓y_q2, ↓sn_q3, ↓sn_t1l, ↓sn_t1r, ↓sn_t2l, ↓sn_t2r, y_q1, y_q2, sn_q3, sn_t1l, sn_t1r, sn_t2l, sn_t2r, nI_clamp, x_leT, x_leF, x_ltT, x_ltF, x_eqT, x_eqF, x_le0T, x_le0F, x_0leT, x_lt0F, x_0ltT, x_0ltF, x_eq0T, x_eq0F, x_le1T, x_le1F, x_1leT, x_1leF, x_1ltT, x_1ltF, x_lt1T, x_lt1F, x_eq1T, x_eq1F, x_m1F, nI_add, nI_1, sn_mul, x_sub, x_sub1, sn_m1, l2, l3, l4, l5, l6, l7, l8, l9, l10, l11, l12, l13, l14, l15, l20, l30, l40, l48, l60, l64, l99, l100, l700, l999, not_true_eq_false, not_false_eq_true, x_t0, x_t1, lts1, x_10, x_1sub, eq_self, Nat.reduceSub, Nat.reduceAdd, Nat.reduceMul, hm.2.1, e1, Bool.not_false, Bool.true_or, Bool.false_eq_true]
      rfl
    · cases e2 : cs A (c 0) p 0 <;> rw [e2] at em
      · simp (disch := omega) only [↓g_in, ↓g_c0, ↓g_c1, ↓reduceIte, ↓y_lt, ↓y_q1, ↓y_q2, ↓sn_q3, ↓sn_t1l, ↓sn_t1r, ↓sn_t2l, ↓sn_t2r, y_q1, y_q2, sn_q3, sn_t1l, sn_t1r, sn_t2l, sn_t2r, nI_clamp, x_leT, x_leF, x_ltT, x_ltF, x_eqT, x_eqF, x_le0T, x_le0F, x_0leT, x_lt0F, x_0ltT, x_0ltF, x_eq0T, x_eq0F, x_le1T, x_le1F, x_1leT, x_1leF, x_1ltT, x_1ltF, x_lt1T, x_lt1F, x_eq1T, x_eq1F, x_m1F, nI_add, nI_1, sn_mul, x_sub, x_sub1, sn_m1, l2, l3, l4, l5, l6, l7, l8, l9, l10, l11, l12, l13, l14, l15, l20, l30, l40, l48, l60, l64, l99, l100, l700, l999, not_true_eq_false, not_false_eq_true, x_t0, x_t1, lts1, x_10, x_1sub, eq_self, Nat.reduceSub, Nat.reduceAdd, Nat.reduceMul, hm.2.1, e1, ↓q1_of em, Bool.not_true, Bool.false_or, Bool.false_eq_true]
        rfl
      · simp (disch := omega) only [↓g_in, ↓g_c0, ↓g_c1, ↓reduceIte, ↓y_lt, ↓y_q1, ↓y_q2, ↓sn_q3, ↓sn_t1l, ↓sn_t1r, ↓sn_t2l, ↓sn_t2r, y_q1, y_q2, sn_q3, sn_t1l, sn_t1r, sn_t2l, sn_t2r, nI_clamp, x_leT, x_leF, x_ltT, x_ltF, x_eqT, x_eqF, x_le0T, x_le0F, x_0leT, x_lt0F, x_0ltT, x_0ltF, x_eq0T, x_eq0F, x_le1T, x_le1F, x_1leT, x_1leF, x_1ltT, x_1ltF, x_lt1T, x_lt1F, x_eq1T, x_eq1F, x_m1F, nI_add, nI_1, sn_mul, x_sub, x_sub1, sn_m1, l2, l3, l4, l5, l6, l7, l8, l9, l10, l11, l12, l13, l14, l15, l20, l30, l40, l48, l60, l64, l99, l100, l700, l999, not_true_eq_false, not_false_eq_true, x_t0, x_t1, lts1, x_10, x_1sub, eq_self, Nat.reduceSub, Nat.reduceAdd, Nat.reduceMul, hm.2.1, e1, ↓q1_of em, Bool.or_true]
        rfl
theorem tog_n (hw : wA A) {x : Int32} {b i : Nat} (h1 : A 0 1 ≤ i) (h5 : i < 5) (hb : bt (nI b) i = true) : tog A x b = false := by
  have : allc A x b = false := by
    cases e : allc A x b
    · rfl
    · unfold allc at e
      have := al_iff.mp e i (by omega) (by omega)
      rw [hb, cs_m hw h1 h5] at this
      exact absurd this (by decide)
  unfold tog
  rw [this]
  rfl
def dui (A : sA) (x : Int32) (a b : Nat) : Option Nat := if tog A x (2 ^ a + 2 ^ b) then some (10 * a + b) else none
def duo (A : sA) (x : Int32) (n a : Nat) : Option Nat := fx (dui A x a) (n - (a + 1)) (a + 1)
theorem pr_b1 : ∀ a, a < 5 → ∀ b, b < 5 → a < b → b1 a ||| b1 b = nI (2 ^ a + 2 ^ b) := by decide +kernel
theorem pr_lt : ∀ a, a < 5 → ∀ b, b < 5 → a < b → 2 ^ a + 2 ^ b < 32 := by decide +kernel
theorem pr_bt : ∀ a, a < 5 → ∀ b, b < 5 → a < b → ∀ i, i < 5 → bt (nI (2 ^ a + 2 ^ b)) i = (decide (i = a) || decide (i = b)) := by decide +kernel
theorem dui_n (hw : wA A) {x : Int32} {a b : Nat} (hab : a < b) (hb : b < 5) (h1 : A 0 1 ≤ b) : dui A x a b = none := by
  unfold dui
  rw [tog_n hw h1 hb (by rw [pr_bt a (by omega) b hb hab b hb, decide_eq_true rfl, Bool.or_true])]
  rfl
theorem q_duet (h : Rel A R t C M) : ∃ v, F_VM_duet t C = some v ∧ mq (F_Mo_duet M) M (.inl v) := by
  obtain ⟨M1, hM1, h0, h, hs⟩ := h.start
  have hw := h.wa
  have hc := h.ca
  have hm := h.ma
  have hst := h.st
  have h5 := hw.2.1
  have key : ∃ o : Option Nat, F_VM_duet t C = fxv o (fun v => some (nI v)) (some (-1)) ∧ F_Mo_duet M = fxv o (fun v => some (nI v, M1)) (some (-1, M1)) := by
    refine ⟨fx (duo A (C 9 0) 5) 5 0, ?_, ?_⟩
    · unfold F_VM_duet
      refine lp_fX (fun f j => F_VM_duet_2 t C f j) (duo A (C 9 0) 5) (fun v => some (nI v)) (some (-1)) 5 0 (by omega) (by omega) ?_ ?_
      · intro f
        show F_VM_duet_2B t (F_VM_duet_2 t C f) (nI 5) C = _
        unfold F_VM_duet_2B
        simp (disch := omega) only [↓g_in, ↓g_c0, ↓g_c1, ↓reduceIte, ↓y_lt, ↓y_q1, ↓y_q2, ↓sn_q3, ↓sn_t1l, ↓sn_t1r, ↓sn_t2l, ↓sn_t2r, y_q1, y_q2, sn_q3, sn_t1l, sn_t1r, sn_t2l, sn_t2r, nI_clamp, x_leT, x_leF, x_ltT, x_ltF, x_eqT, x_eqF, x_le0T, x_le0F, x_0leT, x_lt0F, x_0ltT, x_0ltF, x_eq0T, x_eq0F, x_le1T, x_le1F, x_1leT, x_1leF, x_1ltT, x_1ltF, x_lt1T, x_lt1F, x_eq1T, x_eq1F, x_m1F, nI_add, nI_1, sn_mul, x_sub, x_sub1, sn_m1, l2, l3, l4, l5, l6, l7, l8, l9, l10, l11, l12, l13, l14, l15, l20, l30, l40, l48, l60, l64, l99, l100, l700, l999, not_true_eq_false, not_false_eq_true, x_t0, x_t1, lts1, x_10, x_1sub, eq_self, Nat.reduceSub, Nat.reduceAdd, Nat.reduceMul]
      · intro f a _ ha
        show F_VM_duet_2B t (F_VM_duet_2 t C f) (nI a) C = fxv (duo A (C 9 0) 5 a) (fun v => some (nI v)) (F_VM_duet_2 t C f (nI (a + 1)))
        unfold F_VM_duet_2B
        simp (disch := omega) only [↓g_in, ↓g_c0, ↓g_c1, ↓reduceIte, ↓y_lt, ↓y_q1, ↓y_q2, ↓sn_q3, ↓sn_t1l, ↓sn_t1r, ↓sn_t2l, ↓sn_t2r, y_q1, y_q2, sn_q3, sn_t1l, sn_t1r, sn_t2l, sn_t2r, nI_clamp, x_leT, x_leF, x_ltT, x_ltF, x_eqT, x_eqF, x_le0T, x_le0F, x_0leT, x_lt0F, x_0ltT, x_0ltF, x_eq0T, x_eq0F, x_le1T, x_le1F, x_1leT, x_1leF, x_1ltT, x_1ltF, x_lt1T, x_lt1F, x_eq1T, x_eq1F, x_m1F, nI_add, nI_1, sn_mul, x_sub, x_sub1, sn_m1, l2, l3, l4, l5, l6, l7, l8, l9, l10, l11, l12, l13, l14, l15, l20, l30, l40, l48, l60, l64, l99, l100, l700, l999, not_true_eq_false, not_false_eq_true, x_t0, x_t1, lts1, x_10, x_1sub, eq_self, Nat.reduceSub, Nat.reduceAdd, Nat.reduceMul]
        refine lp_fX (fun g j => F_VM_duet_9 t (F_VM_duet_2 t C f) C g (nI a) j) (dui A (C 9 0) a) (fun v => some (nI v)) (F_VM_duet_2 t C f (nI (a + 1))) 5 (a + 1) (by omega) (by omega) ?_ ?_
        · intro g
          show F_VM_duet_9B t (F_VM_duet_2 t C f) (F_VM_duet_9 t (F_VM_duet_2 t C f) C g) (nI a) (nI 5) C = _
          unfold F_VM_duet_9B
          simp (disch := omega) only [↓g_in, ↓g_c0, ↓g_c1, ↓reduceIte, ↓y_lt, ↓y_q1, ↓y_q2, ↓sn_q3, ↓sn_t1l, ↓sn_t1r, ↓sn_t2l, ↓sn_t2r, y_q1, y_q2, sn_q3, sn_t1l, sn_t1r, sn_t2l, sn_t2r, nI_clamp, x_leT, x_leF, x_ltT, x_ltF, x_eqT, x_eqF, x_le0T, x_le0F, x_0leT, x_lt0F, x_0ltT, x_0ltF, x_eq0T, x_eq0F, x_le1T, x_le1F, x_1leT, x_1leF, x_1ltT, x_1ltF, x_lt1T, x_lt1F, x_eq1T, x_eq1F, x_m1F, nI_add, nI_1, sn_mul, x_sub, x_sub1, sn_m1, l2, l3, l4, l5, l6, l7, l8, l9, l10, l11, l12, l13, l14, l15, l20, l30, l40, l48, l60, l64, l99, l100, l700, l999, not_true_eq_false, not_false_eq_true, x_t0, x_t1, lts1, x_10, x_1sub, eq_self, Nat.reduceSub, Nat.reduceAdd, Nat.reduceMul]
        · intro g b hl hb
          show F_VM_duet_9B t (F_VM_duet_2 t C f) (F_VM_duet_9 t (F_VM_duet_2 t C f) C g) (nI a) (nI b) C = fxv (dui A (C 9 0) a b) (fun v => some (nI v)) (F_VM_duet_9 t (F_VM_duet_2 t C f) C g (nI a) (nI (b + 1)))
          unfold F_VM_duet_9B dui
          simp (disch := omega) only [↓g_in, ↓g_c0, ↓g_c1, ↓reduceIte, ↓y_lt, ↓y_q1, ↓y_q2, ↓sn_q3, ↓sn_t1l, ↓sn_t1r, ↓sn_t2l, ↓sn_t2r, y_q1, y_q2, sn_q3, sn_t1l, sn_t1r, sn_t2l, sn_t2r, nI_clamp, x_leT, x_leF, x_ltT, x_ltF, x_eqT, x_eqF, x_le0T, x_le0F, x_0leT, x_lt0F, x_0ltT, x_0ltF, x_eq0T, x_eq0F, x_le1T, x_le1F, x_1leT, x_1leF, x_1ltT, x_1ltF, x_lt1T, x_lt1F, x_eq1T, x_eq1F, x_m1F, nI_add, nI_1, sn_mul, x_sub, x_sub1, sn_m1, l2, l3, l4, l5, l6, l7, l8, l9, l10, l11, l12, l13, l14, l15, l20, l30, l40, l48, l60, l64, l99, l100, l700, l999, not_true_eq_false, not_false_eq_true, x_t0, x_t1, lts1, x_10, x_1sub, eq_self, Nat.reduceSub, Nat.reduceAdd, Nat.reduceMul, pr_b1 a ha b hb hl, c_together hw hc (pr_lt a ha b hb hl)]
          cases tog A (C 9 0) (2 ^ a + 2 ^ b) <;> rfl
    · unfold F_Mo_duet
      rw [hM1, y_lt]
      rw [fx_to' (n := A 0 1) h5 (fun a h1 h2 => by unfold duo; exact fx_none (fun b h3 h4 => dui_n hw (by omega) (by omega) (by omega)))]
      refine lp_fX (fun f j => F_Mo_duet_5 f j M1) (duo A (C 9 0) 5) (fun v => some (nI v, M1)) (some (-1, M1)) (A 0 1) 0 (by omega) (by omega) ?_ ?_
      · intro f
        show F_Mo_duet_5B (F_Mo_duet_5 f) (nI (A 0 1)) M1 = _
        unfold F_Mo_duet_5B
        simp (disch := omega) only [↓g_in, ↓g_c0, ↓g_c1, ↓reduceIte, ↓y_lt, ↓y_q1, ↓y_q2, ↓sn_q3, ↓sn_t1l, ↓sn_t1r, ↓sn_t2l, ↓sn_t2r, y_q1, y_q2, sn_q3, sn_t1l, sn_t1r, sn_t2l, sn_t2r, nI_clamp, x_leT, x_leF, x_ltT, x_ltF, x_eqT, x_eqF, x_le0T, x_le0F, x_0leT, x_lt0F, x_0ltT, x_0ltF, x_eq0T, x_eq0F, x_le1T, x_le1F, x_1leT, x_1leF, x_1ltT, x_1ltF, x_lt1T, x_lt1F, x_eq1T, x_eq1F, x_m1F, nI_add, nI_1, sn_mul, x_sub, x_sub1, sn_m1, l2, l3, l4, l5, l6, l7, l8, l9, l10, l11, l12, l13, l14, l15, l20, l30, l40, l48, l60, l64, l99, l100, l700, l999, not_true_eq_false, not_false_eq_true, x_t0, x_t1, lts1, x_10, x_1sub, eq_self, Nat.reduceSub, Nat.reduceAdd, Nat.reduceMul, hm.2.1]
      · intro f a _ ha
        show F_Mo_duet_5B (F_Mo_duet_5 f) (nI a) M1 = fxv (duo A (C 9 0) 5 a) (fun v => some (nI v, M1)) (F_Mo_duet_5 f (nI (a + 1)) M1)
        unfold F_Mo_duet_5B duo
        simp (disch := omega) only [↓g_in, ↓g_c0, ↓g_c1, ↓reduceIte, ↓y_lt, ↓y_q1, ↓y_q2, ↓sn_q3, ↓sn_t1l, ↓sn_t1r, ↓sn_t2l, ↓sn_t2r, y_q1, y_q2, sn_q3, sn_t1l, sn_t1r, sn_t2l, sn_t2r, nI_clamp, x_leT, x_leF, x_ltT, x_ltF, x_eqT, x_eqF, x_le0T, x_le0F, x_0leT, x_lt0F, x_0ltT, x_0ltF, x_eq0T, x_eq0F, x_le1T, x_le1F, x_1leT, x_1leF, x_1ltT, x_1ltF, x_lt1T, x_lt1F, x_eq1T, x_eq1F, x_m1F, nI_add, nI_1, sn_mul, x_sub, x_sub1, sn_m1, l2, l3, l4, l5, l6, l7, l8, l9, l10, l11, l12, l13, l14, l15, l20, l30, l40, l48, l60, l64, l99, l100, l700, l999, not_true_eq_false, not_false_eq_true, x_t0, x_t1, lts1, x_10, x_1sub, eq_self, Nat.reduceSub, Nat.reduceAdd, Nat.reduceMul, hm.2.1]
        rw [fx_to' (n := A 0 1 - (a + 1)) (N := 5 - (a + 1)) (by omega) (fun b h1 h2 => dui_n hw (by omega) (by omega) (by omega))]
        refine lp_fX (fun g j => F_Mo_duet_13 (F_Mo_duet_5 f) g (nI a) j M1) (dui A (C 9 0) a) (fun v => some (nI v, M1)) (F_Mo_duet_5 f (nI (a + 1)) M1) (A 0 1) (a + 1) (by omega) (by omega) ?_ ?_
        · intro g
          show F_Mo_duet_13B (F_Mo_duet_5 f) (F_Mo_duet_13 (F_Mo_duet_5 f) g) (nI a) (nI (A 0 1)) M1 = _
          unfold F_Mo_duet_13B
          simp (disch := omega) only [↓g_in, ↓g_c0, ↓g_c1, ↓reduceIte, ↓y_lt, ↓y_q1, ↓y_q2, ↓sn_q3, ↓sn_t1l, ↓sn_t1r, ↓sn_t2l, ↓sn_t2r, y_q1, y_q2, sn_q3, sn_t1l, sn_t1r, sn_t2l, sn_t2r, nI_clamp, x_leT, x_leF, x_ltT, x_ltF, x_eqT, x_eqF, x_le0T, x_le0F, x_0leT, x_lt0F, x_0ltT, x_0ltF, x_eq0T, x_eq0F, x_le1T, x_le1F, x_1leT, x_1leF, x_1ltT, x_1ltF, x_lt1T, x_lt1F, x_eq1T, x_eq1F, x_m1F, nI_add, nI_1, sn_mul, x_sub, x_sub1, sn_m1, l2, l3, l4, l5, l6, l7, l8, l9, l10, l11, l12, l13, l14, l15, l20, l30, l40, l48, l60, l64, l99, l100, l700, l999, not_true_eq_false, not_false_eq_true, x_t0, x_t1, lts1, x_10, x_1sub, eq_self, Nat.reduceSub, Nat.reduceAdd, Nat.reduceMul, hm.2.1]
        · intro g b hl hb
          show F_Mo_duet_13B (F_Mo_duet_5 f) (F_Mo_duet_13 (F_Mo_duet_5 f) g) (nI a) (nI b) M1 = fxv (dui A (C 9 0) a b) (fun v => some (nI v, M1)) (F_Mo_duet_13 (F_Mo_duet_5 f) g (nI a) (nI (b + 1)) M1)
          unfold F_Mo_duet_13B dui
          simp (disch := omega) only [↓g_in, ↓g_c0, ↓g_c1, ↓reduceIte, ↓y_lt, ↓y_q1, ↓y_q2, ↓sn_q3, ↓sn_t1l, ↓sn_t1r, ↓sn_t2l, ↓sn_t2r, y_q1, y_q2, sn_q3, sn_t1l, sn_t1r, sn_t2l, sn_t2r, nI_clamp, x_leT, x_leF, x_ltT, x_ltF, x_eqT, x_eqF, x_le0T, x_le0F, x_0leT, x_lt0F, x_0ltT, x_0ltF, x_eq0T, x_eq0F, x_le1T, x_le1F, x_1leT, x_1leF, x_1ltT, x_1ltF, x_lt1T, x_lt1F, x_eq1T, x_eq1F, x_m1F, nI_add, nI_1, sn_mul, x_sub, x_sub1, sn_m1, l2, l3, l4, l5, l6, l7, l8, l9, l10, l11, l12, l13, l14, l15, l20, l30, l40, l48, l60, l64, l99, l100, l700, l999, not_true_eq_false, not_false_eq_true, x_t0, x_t1, lts1, x_10, x_1sub, eq_self, Nat.reduceSub, Nat.reduceAdd, Nat.reduceMul, hm.2.1, pr_b1 a (show a < 5 by omega) b (show b < 5 by omega) hl, m_areAtOnce hw hm hst (pr_lt a (show a < 5 by omega) b (show b < 5 by omega) hl) (fun i h1 h2 => by rw [pr_bt a (by omega) b (by omega) hl i h2, decide_eq_false (by omega), decide_eq_false (by omega)]; rfl)]
          cases tog A (C 9 0) (2 ^ a + 2 ^ b) <;> rfl
  obtain ⟨o, e1, e2⟩ := key
  cases o with
  | none => exact ⟨-1, e1, mq_v e2 h0 hs⟩
  | some v => exact ⟨nI v, e1, mq_v e2 h0 hs⟩
def evs (A : sA) (x : Int32) (j : Nat) (z : Nat) : Nat := if pc (nI z) < pc (nI (1 + j)) ∧ tog A x (1 + j) = true then 1 + j else z
theorem evs_lt {x : Int32} {j z : Nat} (h : z < 32) (hj : 1 + j < 32) : evs A x j z < 32 := by
  unfold evs
  split
  · exact hj
  · exact h
theorem lo14k : ∀ a, a < 32 → ∀ i, i < 18 → bt (nI a) (i + 14) = false := by decide +kernel
theorem lo14_32 {a : Nat} (h : a < 32) : lo14 (nI a) := fun i hi => by
  by_cases h2 : i < 32
  · have := lo14k a h (i - 14) (by omega)
    rwa [show i - 14 + 14 = i by omega] at this
  · exact b_big (by omega)
theorem b1_p : ∀ a, a < 6 → b1 a = nI (2 ^ a) := by decide +kernel
theorem p_le : ∀ a, a < 6 → 1 ≤ 2 ^ a ∧ 2 ^ a ≤ 32 := by decide +kernel
theorem bt_hi : ∀ a, a < 6 → ∀ b, b < 32 → 2 ^ a ≤ b → ∃ i, i < 5 ∧ a ≤ i ∧ bt (nI b) i = true := by decide +kernel
theorem bt_in : ∀ a, a < 6 → ∀ b, b < 32 → b < 2 ^ a → ∀ i, i < 5 → a ≤ i → bt (nI b) i = false := by decide +kernel
theorem q_evening (h : Rel A R t C M) : ∃ v, F_VM_evening t C = some v ∧ mq (F_Mo_evening M) M (.inl v) := by
  obtain ⟨M1, hM1, h0, h, hs⟩ := h.start
  have hw := h.wa
  have hc := h.ca
  have hm := h.ma
  have hst := h.st
  have h5 := hw.2.1
  refine ⟨nI (itr (evs A (C 9 0)) 31 0), ?_, mq_v (M' := M1) ?_ h0 hs⟩
  · unfold F_VM_evening
    have lp := lp_in (fun f j (z : Nat) => F_VM_evening_4 t C f (nI z) (nI 1 + j)) (fun z => some (nI z)) (evs A (C 9 0)) (fun _ z => z < 32) 31 0 (by omega) (by omega) ?_ ?_
    · exact lp.1
    · intro f z _
      show F_VM_evening_4B t (F_VM_evening_4 t C f) (nI z) (nI 1 + nI 31) C = _
      unfold F_VM_evening_4B
      simp (disch := omega) only [↓g_in, ↓g_c0, ↓g_c1, ↓reduceIte, ↓y_lt, ↓y_q1, ↓y_q2, ↓sn_q3, ↓sn_t1l, ↓sn_t1r, ↓sn_t2l, ↓sn_t2r, y_q1, y_q2, sn_q3, sn_t1l, sn_t1r, sn_t2l, sn_t2r, nI_clamp, x_leT, x_leF, x_ltT, x_ltF, x_eqT, x_eqF, x_le0T, x_le0F, x_0leT, x_lt0F, x_0ltT, x_0ltF, x_eq0T, x_eq0F, x_le1T, x_le1F, x_1leT, x_1leF, x_1ltT, x_1ltF, x_lt1T, x_lt1F, x_eq1T, x_eq1F, x_m1F, nI_add, nI_1, sn_mul, x_sub, x_sub1, sn_m1, l2, l3, l4, l5, l6, l7, l8, l9, l10, l11, l12, l13, l14, l15, l20, l30, l40, l48, l60, l64, l99, l100, l700, l999, not_true_eq_false, not_false_eq_true, x_t0, x_t1, lts1, x_10, x_1sub, eq_self, Nat.reduceSub, Nat.reduceAdd, Nat.reduceMul, l32]
    · intro f j z hj hz
      refine ⟨evs_lt hz (by omega), ?_⟩
      show F_VM_evening_4B t (F_VM_evening_4 t C f) (nI z) (nI 1 + nI j) C = F_VM_evening_4 t C f (nI (evs A (C 9 0) j z)) (nI 1 + nI (j + 1))
      have p1 := pc_le (nI z)
      have p2 := pc_le (nI (1 + j))
      unfold F_VM_evening_4B F_VM_evening_15 evs
      by_cases e1 : pc (nI z) < pc (nI (1 + j))
      · cases e2 : tog A (C 9 0) (1 + j)
        · simp (disch := omega) only [↓g_in, ↓g_c0, ↓g_c1, ↓reduceIte, ↓y_lt, ↓y_q1, ↓y_q2, ↓sn_q3, ↓sn_t1l, ↓sn_t1r, ↓sn_t2l, ↓sn_t2r, y_q1, y_q2, sn_q3, sn_t1l, sn_t1r, sn_t2l, sn_t2r, nI_clamp, x_leT, x_leF, x_ltT, x_ltF, x_eqT, x_eqF, x_le0T, x_le0F, x_0leT, x_lt0F, x_0ltT, x_0ltF, x_eq0T, x_eq0F, x_le1T, x_le1F, x_1leT, x_1leF, x_1ltT, x_1ltF, x_lt1T, x_lt1F, x_eq1T, x_eq1F, x_m1F, nI_add, nI_1, sn_mul, x_sub, x_sub1, sn_m1, l2, l3, l4, l5, l6, l7, l8, l9, l10, l11, l12, l13, l14, l15, l20, l30, l40, l48, l60, l64, l99, l100, l700, l999, not_true_eq_false, not_false_eq_true, x_t0, x_t1, lts1, x_10, x_1sub, eq_self, Nat.reduceSub, Nat.reduceAdd, Nat.reduceMul, l32, int_bc (lo14_32 hz), int_bc (lo14_32 (show 1 + j < 32 by omega)), e1, c_together hw hc (show 1 + j < 32 by omega), e2, Bool.false_eq_true, and_false, Nat.add_assoc]
        · simp (disch := omega) only [↓g_in, ↓g_c0, ↓g_c1, ↓reduceIte, ↓y_lt, ↓y_q1, ↓y_q2, ↓sn_q3, ↓sn_t1l, ↓sn_t1r, ↓sn_t2l, ↓sn_t2r, y_q1, y_q2, sn_q3, sn_t1l, sn_t1r, sn_t2l, sn_t2r, nI_clamp, x_leT, x_leF, x_ltT, x_ltF, x_eqT, x_eqF, x_le0T, x_le0F, x_0leT, x_lt0F, x_0ltT, x_0ltF, x_eq0T, x_eq0F, x_le1T, x_le1F, x_1leT, x_1leF, x_1ltT, x_1ltF, x_lt1T, x_lt1F, x_eq1T, x_eq1F, x_m1F, nI_add, nI_1, sn_mul, x_sub, x_sub1, sn_m1, l2, l3, l4, l5, l6, l7, l8, l9, l10, l11, l12, l13, l14, l15, l20, l30, l40, l48, l60, l64, l99, l100, l700, l999, not_true_eq_false, not_false_eq_true, x_t0, x_t1, lts1, x_10, x_1sub, eq_self, Nat.reduceSub, Nat.reduceAdd, Nat.reduceMul, l32, int_bc (lo14_32 hz), int_bc (lo14_32 (show 1 + j < 32 by omega)), e1, c_together hw hc (show 1 + j < 32 by omega), e2, and_self, Nat.add_assoc]
      · simp (disch := omega) only [↓g_in, ↓g_c0, ↓g_c1, ↓reduceIte, ↓y_lt, ↓y_q1, ↓y_q2, ↓sn_q3, ↓sn_t1l, ↓sn_t1r, ↓sn_t2l, ↓sn_t2r, y_q1, y_q2, sn_q3, sn_t1l, sn_t1r, sn_t2l, sn_t2r, nI_clamp, x_leT, x_leF, x_ltT, x_ltF, x_eqT, x_eqF, x_le0T, x_le0F, x_0leT, x_lt0F, x_0ltT, x_0ltF, x_eq0T, x_eq0F, x_le1T, x_le1F, x_1leT, x_1leF, x_1ltT, x_1ltF, x_lt1T, x_lt1F, x_eq1T, x_eq1F, x_m1F, nI_add, nI_1, sn_mul, x_sub, x_sub1, sn_m1, l2, l3, l4, l5, l6, l7, l8, l9, l10, l11, l12, l13, l14, l15, l20, l30, l40, l48, l60, l64, l99, l100, l700, l999, not_true_eq_false, not_false_eq_true, x_t0, x_t1, lts1, x_10, x_1sub, eq_self, Nat.reduceSub, Nat.reduceAdd, Nat.reduceMul, l32, int_bc (lo14_32 hz), int_bc (lo14_32 (show 1 + j < 32 by omega)), e1, false_and, Nat.add_assoc]
  · have hp := p_le (A 0 1) (by omega)
    rw [itr_to (n := 2 ^ A 0 1 - 1) (by omega) (fun j z h1 h2 => ?_)]
    · unfold F_Mo_evening
      rw [hM1, y_lt]
      have lp := lp_in (fun f j (z : Nat) => F_Mo_evening_7 f (nI z) (nI 1 + j) M1) (fun z => some (nI z, M1)) (evs A (C 9 0)) (fun _ z => z < 32) (2 ^ A 0 1 - 1) 0 (by omega) (by omega) ?_ ?_
      · exact lp.1
      · intro f z _
        show F_Mo_evening_7B (F_Mo_evening_7 f) (nI z) (nI 1 + nI (2 ^ A 0 1 - 1)) M1 = _
        unfold F_Mo_evening_7B
        simp (disch := omega) only [↓g_in, ↓g_c0, ↓g_c1, ↓reduceIte, ↓y_lt, ↓y_q1, ↓y_q2, ↓sn_q3, ↓sn_t1l, ↓sn_t1r, ↓sn_t2l, ↓sn_t2r, y_q1, y_q2, sn_q3, sn_t1l, sn_t1r, sn_t2l, sn_t2r, nI_clamp, x_leT, x_leF, x_ltT, x_ltF, x_eqT, x_eqF, x_le0T, x_le0F, x_0leT, x_lt0F, x_0ltT, x_0ltF, x_eq0T, x_eq0F, x_le1T, x_le1F, x_1leT, x_1leF, x_1ltT, x_1ltF, x_lt1T, x_lt1F, x_eq1T, x_eq1F, x_m1F, nI_add, nI_1, sn_mul, x_sub, x_sub1, sn_m1, l2, l3, l4, l5, l6, l7, l8, l9, l10, l11, l12, l13, l14, l15, l20, l30, l40, l48, l60, l64, l99, l100, l700, l999, not_true_eq_false, not_false_eq_true, x_t0, x_t1, lts1, x_10, x_1sub, eq_self, Nat.reduceSub, Nat.reduceAdd, Nat.reduceMul, hm.2.1, b1_p (A 0 1) (show A 0 1 < 6 by omega)]
      · intro f j z hj hz
        refine ⟨evs_lt hz (by omega), ?_⟩
        show F_Mo_evening_7B (F_Mo_evening_7 f) (nI z) (nI 1 + nI j) M1 = F_Mo_evening_7 f (nI (evs A (C 9 0) j z)) (nI 1 + nI (j + 1)) M1
        have p1 := pc_le (nI z)
        have p2 := pc_le (nI (1 + j))
        have ea := m_areAtOnce hw hm hst (b := 1 + j) (by omega) (fun i h1 h2 => bt_in (A 0 1) (by omega) (1 + j) (by omega) (by omega) i h2 h1)
        unfold F_Mo_evening_7B evs
        by_cases e1 : pc (nI z) < pc (nI (1 + j))
        · cases e2 : tog A (C 9 0) (1 + j)
          · simp (disch := omega) only [↓g_in, ↓g_c0, ↓g_c1, ↓reduceIte, ↓y_lt, ↓y_q1, ↓y_q2, ↓sn_q3, ↓sn_t1l, ↓sn_t1r, ↓sn_t2l, ↓sn_t2r, y_q1, y_q2, sn_q3, sn_t1l, sn_t1r, sn_t2l, sn_t2r, nI_clamp, x_leT, x_leF, x_ltT, x_ltF, x_eqT, x_eqF, x_le0T, x_le0F, x_0leT, x_lt0F, x_0ltT, x_0ltF, x_eq0T, x_eq0F, x_le1T, x_le1F, x_1leT, x_1leF, x_1ltT, x_1ltF, x_lt1T, x_lt1F, x_eq1T, x_eq1F, x_m1F, nI_add, nI_1, sn_mul, x_sub, x_sub1, sn_m1, l2, l3, l4, l5, l6, l7, l8, l9, l10, l11, l12, l13, l14, l15, l20, l30, l40, l48, l60, l64, l99, l100, l700, l999, not_true_eq_false, not_false_eq_true, x_t0, x_t1, lts1, x_10, x_1sub, eq_self, Nat.reduceSub, Nat.reduceAdd, Nat.reduceMul, hm.2.1, b1_p (A 0 1) (show A 0 1 < 6 by omega), mo_bits, e1, ea, e2, Bool.false_eq_true, and_false, Nat.add_assoc]
          · simp (disch := omega) only [↓g_in, ↓g_c0, ↓g_c1, ↓reduceIte, ↓y_lt, ↓y_q1, ↓y_q2, ↓sn_q3, ↓sn_t1l, ↓sn_t1r, ↓sn_t2l, ↓sn_t2r, y_q1, y_q2, sn_q3, sn_t1l, sn_t1r, sn_t2l, sn_t2r, nI_clamp, x_leT, x_leF, x_ltT, x_ltF, x_eqT, x_eqF, x_le0T, x_le0F, x_0leT, x_lt0F, x_0ltT, x_0ltF, x_eq0T, x_eq0F, x_le1T, x_le1F, x_1leT, x_1leF, x_1ltT, x_1ltF, x_lt1T, x_lt1F, x_eq1T, x_eq1F, x_m1F, nI_add, nI_1, sn_mul, x_sub, x_sub1, sn_m1, l2, l3, l4, l5, l6, l7, l8, l9, l10, l11, l12, l13, l14, l15, l20, l30, l40, l48, l60, l64, l99, l100, l700, l999, not_true_eq_false, not_false_eq_true, x_t0, x_t1, lts1, x_10, x_1sub, eq_self, Nat.reduceSub, Nat.reduceAdd, Nat.reduceMul, hm.2.1, b1_p (A 0 1) (show A 0 1 < 6 by omega), mo_bits, e1, ea, e2, and_self, Nat.add_assoc]
        · simp (disch := omega) only [↓g_in, ↓g_c0, ↓g_c1, ↓reduceIte, ↓y_lt, ↓y_q1, ↓y_q2, ↓sn_q3, ↓sn_t1l, ↓sn_t1r, ↓sn_t2l, ↓sn_t2r, y_q1, y_q2, sn_q3, sn_t1l, sn_t1r, sn_t2l, sn_t2r, nI_clamp, x_leT, x_leF, x_ltT, x_ltF, x_eqT, x_eqF, x_le0T, x_le0F, x_0leT, x_lt0F, x_0ltT, x_0ltF, x_eq0T, x_eq0F, x_le1T, x_le1F, x_1leT, x_1leF, x_1ltT, x_1ltF, x_lt1T, x_lt1F, x_eq1T, x_eq1F, x_m1F, nI_add, nI_1, sn_mul, x_sub, x_sub1, sn_m1, l2, l3, l4, l5, l6, l7, l8, l9, l10, l11, l12, l13, l14, l15, l20, l30, l40, l48, l60, l64, l99, l100, l700, l999, not_true_eq_false, not_false_eq_true, x_t0, x_t1, lts1, x_10, x_1sub, eq_self, Nat.reduceSub, Nat.reduceAdd, Nat.reduceMul, hm.2.1, b1_p (A 0 1) (show A 0 1 < 6 by omega), mo_bits, e1, false_and, Nat.add_assoc]
    · obtain ⟨i, i1, i2, i3⟩ := bt_hi (A 0 1) (by omega) (1 + j) (by omega) (by omega)
      unfold evs
      rw [tog_n hw i2 i1 i3, if_neg (fun z => by cases z.2)]
end QU
