/-! ===== ransom ===== -/
theorem bt_nI {x i : Nat} (hi : i < 32) : bt (nI x) i = x.testBit i := by
  unfold bt
  show (BitVec.ofNat 32 x).getLsbD i = _
  rw [BitVec.getLsbD_ofNat, decide_eq_true hi, Bool.true_and]
/-- one set of bits within another -/
def nsb (x a : Nat) : Prop := ∀ i, x.testBit i = true → a.testBit i = true
def rsb (x a : Nat) : Bool := decide (x &&& a = x)
theorem rsb_iff {x a : Nat} : rsb x a = true ↔ nsb x a := by
  unfold rsb nsb
  rw [decide_eq_true_eq]
  constructor
  · intro h i hi
    rw [← h, Nat.testBit_and, Bool.and_eq_true] at hi
    exact hi.2
  · intro h
    apply Nat.eq_of_testBit_eq
    intro i
    rw [Nat.testBit_and]
    cases e : x.testBit i
    · rfl
    · rw [h i e]; rfl
theorem nsb_le {x a : Nat} (h : nsb x a) : x ≤ a := by
  have h2 := rsb_iff.mpr h
  unfold rsb at h2
  rw [decide_eq_true_eq] at h2
  rw [← h2]
  exact Nat.and_le_right
theorem and_rc (a b : Nat) : a &&& b = 2 * (a / 2 &&& b / 2) + (if a % 2 = 1 ∧ b % 2 = 1 then 1 else 0) := by
  have h1 := Nat.and_div_two (a := a) (b := b)
  have h2 := Nat.and_mod_two_eq_one (a := a) (b := b)
  have h3 : (a &&& b) % 2 = 0 ∨ (a &&& b) % 2 = 1 := by omega
  rw [← h1]
  split
  · rename_i h
    have := h2.mpr h
    omega
  · rename_i h
    have : ¬ (a &&& b) % 2 = 1 := fun z => h (h2.mp z)
    omega
theorem nsb_half {x a : Nat} (h : nsb x a) : nsb (x / 2) (a / 2) := fun i hi => by
  rw [← Nat.testBit_add_one] at hi ⊢
  exact h _ hi
theorem nsb_low {x a : Nat} (h : nsb x a) : x % 2 ≤ a % 2 := by
  have := h 0
  rw [Nat.testBit_zero, Nat.testBit_zero, decide_eq_true_eq, decide_eq_true_eq] at this
  omega
theorem sub_E : ∀ n a d e, a < 2 ^ n → nsb d a → nsb e a → e < d → e ≤ a &&& (d - 1)
  | 0, a, d, e, ha, hd, _, hlt => by
    have := nsb_le hd
    have : a = 0 := by omega
    omega
  | n + 1, a, d, e, ha, hd, he, hlt => by
    have ha2 : a / 2 < 2 ^ n := by rw [Nat.pow_succ] at ha; omega
    have d1 := nsb_low hd
    have e1 := nsb_low he
    rw [and_rc]
    by_cases hd0 : d % 2 = 1
    · have h1 : (d - 1) / 2 = d / 2 := by omega
      have h2 := rsb_iff.mpr (nsb_half hd)
      unfold rsb at h2
      rw [decide_eq_true_eq, Nat.and_comm] at h2
      rw [h1, h2]
      split <;> omega
    · have h1 : (d - 1) / 2 = d / 2 - 1 := by omega
      have ih := sub_E n (a / 2) (d / 2) (e / 2) ha2 (nsb_half hd) (nsb_half he) (by omega)
      rw [h1]
      split
      · omega
      · rename_i hh
        omega
theorem sub_X : ∀ n a x, a < 2 ^ n → nsb x a → (a ^^^ x) + x = a
  | 0, a, x, ha, hx => by
    have := nsb_le hx
    have h0 : a = 0 := by omega
    have h1 : x = 0 := by omega
    subst h0
    subst h1
    rfl
  | n + 1, a, x, ha, hx => by
    have ha2 : a / 2 < 2 ^ n := by rw [Nat.pow_succ] at ha; omega
    have x1 := nsb_low hx
    have ih := sub_X n (a / 2) (x / 2) ha2 (nsb_half hx)
    have h1 := Nat.xor_div_two (a := a) (b := x)
    have h2 := Nat.xor_mod_two_eq_one (a := a) (b := x)
    have h3 : (a ^^^ x) % 2 = 0 ∨ (a ^^^ x) % 2 = 1 := by omega
    rw [← h1] at ih
    by_cases c1 : a % 2 = 1
    · by_cases c2 : x % 2 = 1
      · have : ¬ (a ^^^ x) % 2 = 1 := fun z => (h2.mp z) ⟨fun _ => c2, fun _ => c1⟩
        omega
      · have : (a ^^^ x) % 2 = 1 := h2.mpr (fun z => c2 (z.mp c1))
        omega
    · have : ¬ (a ^^^ x) % 2 = 1 := fun z => (h2.mp z) ⟨fun q => absurd q c1, fun q => absurd q (by omega)⟩
      omega
theorem nsb_xor {a x : Nat} : nsb (a ^^^ (a &&& x)) a := fun i hi => by
  rw [Nat.testBit_xor, Nat.testBit_and] at hi
  cases e : a.testBit i
  · rw [e] at hi; cases hi
  · rfl
theorem nsb_xor' {a x : Nat} (h : nsb x a) : nsb (a ^^^ x) a := fun i hi => by
  rw [Nat.testBit_xor] at hi
  cases e : a.testBit i
  · rw [e] at hi
    cases e2 : x.testBit i
    · rw [e2] at hi; cases hi
    · rw [h i e2] at e; cases e
  · rfl
/-- the next set within a set -/
theorem nx_1 {a s : Nat} (ha : a < 2 ^ 14) (hs : nsb s a) (hne : s ≠ a) : ∃ n, (nI s - nI a) &&& nI a = nI n ∧ s < n ∧ n ≤ a ∧ nsb n a ∧ ∀ x, s < x → x < n → ¬ nsb x a := by
  have hle := nsb_le hs
  have hX := sub_X 14 a (a &&& (a - s - 1)) ha (fun i hi => by rw [Nat.testBit_and, Bool.and_eq_true] at hi; exact hi.1)
  have hm : a &&& (a - s - 1) ≤ a - s - 1 := Nat.and_le_right
  refine ⟨a ^^^ (a &&& (a - s - 1)), ?_, by omega, nsb_le nsb_xor, nsb_xor, ?_⟩
  · apply b_ext
    intro i hi
    rw [b_and, bt_nI hi, bt_nI hi, Nat.testBit_xor, Nat.testBit_and]
    have hneg : bt (nI s - nI a) i = !(a - s - 1).testBit i := by
      have e1 : (nI s - nI a).toBitVec = ~~~ (BitVec.ofNat 32 (a - s - 1)) := by
        apply BitVec.eq_of_toNat_eq
        show (BitVec.ofNat 32 s - BitVec.ofNat 32 a).toNat = _
        rw [BitVec.toNat_not, BitVec.toNat_sub, BitVec.toNat_ofNat, BitVec.toNat_ofNat, BitVec.toNat_ofNat]
        omega
      unfold bt
      rw [e1, BitVec.getLsbD_not, BitVec.getLsbD_ofNat, decide_eq_true hi, Bool.true_and, Bool.true_and]
    rw [hneg]
    cases a.testBit i <;> cases (a - s - 1).testBit i <;> rfl
  · intro x h1 h2 hx
    have hxl := nsb_le hx
    have hX2 := sub_X 14 a x ha hx
    have hX3 := sub_X 14 a s ha hs
    have hE := sub_E 14 a (a ^^^ s) (a ^^^ x) ha (nsb_xor' hs) (nsb_xor' hx) (by omega)
    rw [show a ^^^ s = a - s by omega] at hE
    omega
theorem nx_0 {a : Nat} : (nI a - nI a) &&& nI a = 0 := by
  have : nI a - nI a = 0 := by rw [sn_sub (Nat.le_refl _), Nat.sub_self]; rfl
  rw [this]
  apply b_ext
  intro i _
  rw [b_and, b_0, Bool.false_and]
/-- loops, forward -/
def gz {α : Type} (st : Nat → α → α) : Nat → Nat → α → α
  | 0, _, a => a
  | m + 1, j, a => gz st m (j + 1) (st j a)
theorem gz_add {α : Type} {st : Nat → α → α} {m2 : Nat} : ∀ {m1 j : Nat} {a : α}, gz st (m1 + m2) j a = gz st m2 (j + m1) (gz st m1 j a)
  | 0, j, a => by rw [Nat.zero_add]; rfl
  | m1 + 1, j, a => by
    rw [show m1 + 1 + m2 = (m1 + m2) + 1 by omega, gz, gz, gz_add, show j + 1 + m1 = j + (m1 + 1) by omega]
theorem gz_id {α : Type} {st : Nat → α → α} {a : α} : ∀ {m j : Nat}, (∀ x, j ≤ x → x < j + m → st x a = a) → gz st m j a = a
  | 0, _, _ => rfl
  | m + 1, j, h => by
    rw [gz, h j (by omega) (by omega)]
    exact gz_id (fun x h1 h2 => h x (by omega) (by omega))
theorem itr_gz {α : Type} {st : Nat → α → α} : ∀ {n : Nat} {a : α}, itr st n a = gz st n 0 a
  | 0, _ => rfl
  | n + 1, a => by
    rw [itr, itr_gz, gz_add (m1 := n) (m2 := 1)]
    show st n _ = st (0 + n) _
    rw [Nat.zero_add]
/-- those of the north and of the south who are caught -/
def rno (A : sA) (c : Nat → Int32) : Int32 := sd A 0 &&& c 1
def rso (A : sA) (c : Nat → Int32) : Int32 := sd A 1 &&& c 1
def rse (A : sA) (c : Nat → Int32) (x : Nat) : Bool := decide (pc (nI x &&& rno A c) = pc (nI x &&& rso A c))
def rsl (x : Nat) : Option Nat → Bool
  | none => true
  | some b => decide (pc (nI x) < pc (nI b))
def rs (A : sA) (c : Nat → Int32) (p a x : Nat) (b : Option Nat) : Option Nat := if (rsb x a && rse A c x && rsl x b && cs A (c 0 ||| nI x) p 0) then some x else b
def rsi : Option Nat → Int32
  | none => -1
  | some b => nI b
def rsf (A : sA) (c : Nat → Int32) : Option Nat → Nat
  | none => 1000
  | some b => pc (nI b &&& rno A c)
def rsg (A : sA) (c : Nat → Int32) (a : Nat) (b : Option Nat) : Prop := ∀ v, b = some v → nsb v a ∧ rse A c v = true
theorem cn_split {p q : Nat → Bool} : ∀ {n : Nat}, cn p n = cn (fun i => p i && q i) n + cn (fun i => p i && !q i) n
  | 0 => rfl
  | n + 1 => by
    rw [cn, cn, cn, cn_split (p := p) (q := q) (n := n)]
    cases p n <;> cases q n <;> simp <;> omega
section QU
variable {A : sA} {R : Nat → List Nat} {t : Nat} {C M : sm_MI}
theorem sd_dis (hw : wA A) {i : Nat} : (bt (sd A 0) i && bt (sd A 1) i) = false := by
  rw [bt_sd hw, bt_sd hw]
  cases decide (i < A 0 0)
  · rfl
  · by_cases e : A 1 i = 0
    · rw [decide_eq_false (show ¬ A 1 i = 1 by omega)]; simp
    · rw [decide_eq_false e]; rfl
theorem rs_pc (hw : wA A) {c : Nat → Int32} {a x : Nat} (hall : rno A c ||| rso A c = nI a) (hx : nsb x a) : pc (nI x) = pc (nI x &&& rno A c) + pc (nI x &&& rso A c) := by
  unfold pc
  rw [cn_split (p := bt (nI x)) (q := bt (rno A c))]
  have e1 : cn (fun i => bt (nI x) i && bt (rno A c) i) 14 = cn (bt (nI x &&& rno A c)) 14 := cn_congr (fun i _ => by rw [b_and])
  have e2 : cn (fun i => bt (nI x) i && !bt (rno A c) i) 14 = cn (bt (nI x &&& rso A c)) 14 := cn_congr (fun i hi => by
    rw [b_and]
    cases e : bt (nI x) i
    · rfl
    · rw [bt_nI (by omega)] at e
      have h1 := hx i e
      rw [← bt_nI (show i < 32 by omega), ← hall, b_or] at h1
      have h2 := sd_dis hw (i := i)
      unfold rno rso at h1 ⊢
      rw [b_and, b_and] at h1 ⊢
      cases q0 : bt (sd A 0) i <;> cases q1 : bt (sd A 1) i <;> cases q2 : bt (c 1) i <;> simp_all)
  rw [e1, e2]
theorem rsl_f (hw : wA A) {c : Nat → Int32} {a x : Nat} {b : Option Nat} (hall : rno A c ||| rso A c = nI a) (hx : nsb x a) (he : rse A c x = true) (hb : rsg A c a b) : rsl x b = decide (pc (nI x &&& rno A c) < rsf A c b) := by
  unfold rse at he
  rw [decide_eq_true_eq] at he
  cases b with
  | none =>
    have := pc_le (nI x &&& rno A c)
    exact (decide_eq_true (show pc (nI x &&& rno A c) < 1000 by omega)).symm
  | some v =>
    obtain ⟨h1, h2⟩ := hb v rfl
    unfold rse at h2
    rw [decide_eq_true_eq] at h2
    have e1 := rs_pc hw hall hx
    have e2 := rs_pc hw hall h1
    show decide (pc (nI x) < pc (nI v)) = decide (_ < pc (nI v &&& rno A c))
    by_cases h : pc (nI x) < pc (nI v)
    · rw [decide_eq_true h, decide_eq_true (by omega)]
    · rw [decide_eq_false h, decide_eq_false (by omega)]
theorem rsg_s {c : Nat → Int32} {p a x : Nat} {b : Option Nat} (hb : rsg A c a b) : rsg A c a (rs A c p a x b) := by
  intro v hv
  unfold rs at hv
  split at hv
  · rename_i h
    cases hv
    simp only [Bool.and_eq_true] at h
    exact ⟨rsb_iff.mp h.1.1.1, h.1.1.2⟩
  · exact hb v hv
theorem rs_out {c : Nat → Int32} {p a x : Nat} {b : Option Nat} (h : ¬ nsb x a) : rs A c p a x b = b := by
  unfold rs
  have : rsb x a = false := by
    cases e : rsb x a
    · rfl
    · exact absurd (rsb_iff.mp e) h
  rw [this]
  rfl
theorem rs_min (hw : wA A) {c : Nat → Int32} {p a x : Nat} {b : Option Nat} (hall : rno A c ||| rso A c = nI a) (hb : rsg A c a b) (h0 : rsf A c b = 0) : rs A c p a x b = b := by
  unfold rs
  cases e1 : rsb x a
  · rfl
  · cases e2 : rse A c x
    · rfl
    · rw [rsl_f hw hall (rsb_iff.mp e1) e2 hb, h0, decide_eq_false (by omega)]
      rfl
theorem lo14_no (hw : wA A) {c : Nat → Int32} : lo14 (rno A c) := lo14_and (lo14_sd hw)
theorem lo14_so (hw : wA A) {c : Nat → Int32} : lo14 (rso A c) := lo14_and (lo14_sd hw)
theorem l16384 : (16384 : Int32) = nI 16384 := nr_ rfl
theorem c_rl (hw : wA A) (hc : cA A t C) {p a : Nat} (hp : p < 5) (ha : a < 2 ^ 14) (hall : rno A (C 9) ||| rso A (C 9) = nI a) : ∀ (m f s i : Nat) (b : Option Nat), 16384 - s ≤ m → m < f → nsb s a → i ≤ s → rsg A (C 9) a b →
    F_Choir_ransomed_36 t C f (nI p) (rno A (C 9)) (rso A (C 9)) (nI a) (rsi b) (nI (rsf A (C 9) b)) (nI s) (nI i) = some (rsi (gz (rs A (C 9) p a) (16384 - s) s b))
  | 0, f, s, i, b, hm, _, hs, _, _ => by
    have := nsb_le hs
    omega
  | m + 1, f, s, i, b, hm, hf, hs, hi, hb => by
    obtain ⟨f, rfl⟩ : ∃ g, f = g + 1 := ⟨f - 1, by omega⟩
    have hsa := nsb_le hs
    have p1 := pc_le (nI s &&& rno A (C 9))
    have p2 := pc_le (nI s &&& rso A (C 9))
    have hfb : rsf A (C 9) b ≤ 1000 := by
      cases b with
      | none => exact Nat.le_refl _
      | some v =>
        have := pc_le (nI v &&& rno A (C 9))
        show pc _ ≤ 1000
        omega
    rw [show 16384 - s = (16384 - s - 1) + 1 by omega, gz]
    have fin : ∀ b', rsg A (C 9) a b' → F_Choir_ransomed_71 t (F_Choir_ransomed_36 t C f) (nI p) (rno A (C 9)) (rso A (C 9)) (nI a) (rsi b') (nI (rsf A (C 9) b')) (nI s) (nI i) C = some (rsi (gz (rs A (C 9) p a) (16384 - s - 1) (s + 1) b')) := by
      intro b' hb'
      have hfb' : rsf A (C 9) b' ≤ 1000 := by
        cases b' with
        | none => exact Nat.le_refl _
        | some v =>
          have := pc_le (nI v &&& rno A (C 9))
          show pc _ ≤ 1000
          omega
      unfold F_Choir_ransomed_71
      by_cases hsa2 : s = a
      · rw [hsa2, y_lt, nx_0, if_pos rfl, gz_id]
        intro x h1 h2
        exact rs_out (fun h => by have := nsb_le h; omega)
      · obtain ⟨n, n1, n2, n3, n4, n5⟩ := nx_1 ha hs hsa2
        rw [y_lt, n1, if_neg (nI_ne0 (by omega) (by omega))]
        by_cases h0 : rsf A (C 9) b' = 0
        · rw [h0, if_neg (sn_nn (show nI 0 = (0 : Int32) from rfl)), gz_id]
          intro x _ _
          exact rs_min hw hall hb' h0
        · rw [if_pos (nI_ne0 (by omega) (by omega)), nI_1, c_rl hw hc hp ha hall m f n (i + 1) b' (by omega) (by omega) n4 (by omega) hb']
          have e : gz (rs A (C 9) p a) (16384 - s - 1) (s + 1) b' = gz (rs A (C 9) p a) (16384 - n) n b' := by
            rw [show 16384 - s - 1 = (n - s - 1) + (16384 - n) by omega, gz_add, gz_id (m := n - s - 1) (j := s + 1) (a := b') (fun x h1 h2 => rs_out (n5 x (by omega) (by omega))), show s + 1 + (n - s - 1) = n by omega]
          rw [e]
    show F_Choir_ransomed_36B t (F_Choir_ransomed_36 t C f) (nI p) (rno A (C 9)) (rso A (C 9)) (nI a) (rsi b) (nI (rsf A (C 9) b)) (nI s) (nI i) C = _
    unfold F_Choir_ransomed_36B F_Choir_ransomed_53
    have ls : lo14 (nI s &&& rno A (C 9)) := lo14_and' (lo14_no hw)
    have lt : lo14 (nI s &&& rso A (C 9)) := lo14_and' (lo14_so hw)
    have ec := c_canBeSung (p := p) (x := C 9 0 ||| nI s) hw hc hp
    have er : rsb s a = true := rsb_iff.mpr hs
    by_cases e1 : pc (nI s &&& rno A (C 9)) = pc (nI s &&& rso A (C 9))
    · have e2 : rse A (C 9) s = true := by unfold rse; rw [decide_eq_true e1]
      by_cases e3 : pc (nI s &&& rno A (C 9)) < rsf A (C 9) b
      · have e4 : rsl s b = true := by rw [rsl_f hw hall hs e2 hb, decide_eq_true e3]
        cases e5 : cs A (C 9 0 ||| nI s) p 0 <;> rw [e5] at ec
        · have e6 : rs A (C 9) p a s b = b := by unfold rs; rw [e5]; simp
          rw [e6]
          simp (disch := omega) only [↓g_in, ↓g_c0, ↓g_c1, ↓reduceIte, ↓y_lt, ↓y_q1, ↓y_q2, ↓sn_q3, ↓sn_t1l, ↓sn_t1r, ↓sn_t2l, ↓sn_t2r, y_q1, y_q2, sn_q3, sn_t1l, sn_t1r, sn_t2l, sn_t2r, nI_clamp, x_leT, x_leF, x_ltT, x_ltF, x_eqT, x_eqF, x_le0T, x_le0F, x_0leT, x_lt0F, x_0ltT, x_0ltF, x_eq0T, x_eq0F, x_le1T, x_le1F, x_1leT, x_1leF, x_1ltT, x_1ltF, x_lt1T, x_lt1F, x_eq1T, x_eq1F, x_m1F, nI_add, nI_1, sn_mul, x_sub, x_sub1, sn_m1, l2, l3, l4, l5, l6, l7, l8, l9, l10, l11, l12, l13, l14, l15, l20, l30, l40, l48, l60, l64, l99, l100, l700, l999, not_true_eq_false, not_false_eq_true, x_t0, x_t1, lts1, x_10, x_1sub, eq_self, Nat.reduceSub, Nat.reduceAdd, Nat.reduceMul, l16384, int_bc ls, int_bc lt, e1, ec, Bool.false_eq_true]
          exact fin b hb
        · have e6 : rs A (C 9) p a s b = some s := by unfold rs; rw [er, e2, e4, e5]; rfl
          rw [e6]
          simp (disch := omega) only [↓g_in, ↓g_c0, ↓g_c1, ↓reduceIte, ↓y_lt, ↓y_q1, ↓y_q2, ↓sn_q3, ↓sn_t1l, ↓sn_t1r, ↓sn_t2l, ↓sn_t2r, y_q1, y_q2, sn_q3, sn_t1l, sn_t1r, sn_t2l, sn_t2r, nI_clamp, x_leT, x_leF, x_ltT, x_ltF, x_eqT, x_eqF, x_le0T, x_le0F, x_0leT, x_lt0F, x_0ltT, x_0ltF, x_eq0T, x_eq0F, x_le1T, x_le1F, x_1leT, x_1leF, x_1ltT, x_1ltF, x_lt1T, x_lt1F, x_eq1T, x_eq1F, x_m1F, nI_add, nI_1, sn_mul, x_sub, x_sub1, sn_m1, l2, l3, l4, l5, l6, l7, l8, l9, l10, l11, l12, l13, l14, l15, l20, l30, l40, l48, l60, l64, l99, l100, l700, l999, not_true_eq_false, not_false_eq_true, x_t0, x_t1, lts1, x_10, x_1sub, eq_self, Nat.reduceSub, Nat.reduceAdd, Nat.reduceMul, l16384, int_bc ls, int_bc lt, e1, ec]
          have := fin (some s) (fun v hv => by cases hv; exact ⟨hs, e2⟩)
          rw [show rsf A (C 9) (some s) = pc (nI s &&& rno A (C 9)) from rfl, e1] at this
          exact this
      · have e4 : rsl s b = false := by rw [rsl_f hw hall hs e2 hb, decide_eq_false e3]
        have e6 : rs A (C 9) p a s b = b := by unfold rs; rw [e4]; simp
        rw [e6]
        simp (disch := omega) only [↓g_in, ↓g_c0, ↓g_c1, ↓reduceIte, ↓y_lt, ↓y_q1, ↓y_q2, ↓sn_q3, ↓sn_t1l, ↓sn_t1r, ↓sn_t2l, ↓sn_t2r, y_q1, y_q2, sn_q3, sn_t1l, sn_t1r, sn_t2l, sn_t2r, nI_clamp, x_leT, x_leF, x_ltT, x_ltF, x_eqT, x_eqF, x_le0T, x_le0F, x_0leT, x_lt0F, x_0ltT, x_0ltF, x_eq0T, x_eq0F, x_le1T, x_le1F, x_1leT, x_1leF, x_1ltT, x_1ltF, x_lt1T, x_lt1F, x_eq1T, x_eq1F, x_m1F, nI_add, nI_1, sn_mul, x_sub, x_sub1, sn_m1, l2, l3, l4, l5, l6, l7, l8, l9, l10, l11, l12, l13, l14, l15, l20, l30, l40, l48, l60, l64, l99, l100, l700, l999, not_true_eq_false, not_false_eq_true, x_t0, x_t1, lts1, x_10, x_1sub, eq_self, Nat.reduceSub, Nat.reduceAdd, Nat.reduceMul, l16384, int_bc ls, int_bc lt, e1]
        exact fin b hb
    · have e2 : rse A (C 9) s = false := by unfold rse; rw [decide_eq_false e1]
      have e6 : rs A (C 9) p a s b = b := by unfold rs; rw [e2]; simp
      rw [e6]
      simp (disch := omega) only [↓g_in, ↓g_c0, ↓g_c1, ↓reduceIte, ↓y_lt, ↓y_q1, ↓y_q2, ↓sn_q3, ↓sn_t1l, ↓sn_t1r, ↓sn_t2l, ↓sn_t2r, y_q1, y_q2, sn_q3, sn_t1l, sn_t1r, sn_t2l, sn_t2r, nI_clamp, x_leT, x_leF, x_ltT, x_ltF, x_eqT, x_eqF, x_le0T, x_le0F, x_0leT, x_lt0F, x_0ltT, x_0ltF, x_eq0T, x_eq0F, x_le1T, x_le1F, x_1leT, x_1leF, x_1ltT, x_1ltF, x_lt1T, x_lt1F, x_eq1T, x_eq1F, x_m1F, nI_add, nI_1, sn_mul, x_sub, x_sub1, sn_m1, l2, l3, l4, l5, l6, l7, l8, l9, l10, l11, l12, l13, l14, l15, l20, l30, l40, l48, l60, l64, l99, l100, l700, l999, not_true_eq_false, not_false_eq_true, x_t0, x_t1, lts1, x_10, x_1sub, eq_self, Nat.reduceSub, Nat.reduceAdd, Nat.reduceMul, l16384, int_bc ls, int_bc lt, e1]
      exact fin b hb
theorem lo14_x {x : Nat} (hx : x < 2 ^ 14) : lo14 (nI x) := fun i hi => by
  by_cases h : i < 32
  · rw [bt_nI h]
    exact Nat.testBit_lt_two_pow (Nat.lt_of_lt_of_le hx (Nat.pow_le_pow_right (by omega) hi))
  · exact b_big (by omega)
theorem an0_iff {x y : Int32} (hx : lo14 x) : x &&& (y ^^^ -1) = 0 ↔ ∀ i, i < 14 → bt x i = true → bt y i = true := by
  constructor
  · intro h i hi hb
    have h2 := congrArg (fun z => bt z i) h
    simp only [b_and, b_0] at h2
    rw [bt_not (by omega), hb] at h2
    simpa using h2
  · intro h
    apply b_ext14 (lo14_and hx) lo14_0
    intro i hi
    rw [b_and, bt_not (by omega), b_0]
    cases e : bt x i
    · rfl
    · rw [h i hi e]; rfl
theorem nsb_iff {x a : Nat} (hx : x < 2 ^ 14) : nsb x a ↔ ∀ i, i < 14 → bt (nI x) i = true → bt (nI a) i = true := by
  constructor
  · intro h i hi hb
    rw [bt_nI (by omega)] at hb ⊢
    exact h i hb
  · intro h i hi
    by_cases h14 : i < 14
    · have := h i h14
      rw [bt_nI (by omega), bt_nI (by omega)] at this
      exact this hi
    · rw [Nat.testBit_lt_two_pow (Nat.lt_of_lt_of_le hx (Nat.pow_le_pow_right (by omega) (by omega)))] at hi
      cases hi
theorem b1_p14 : ∀ a, a < 15 → b1 a = nI (2 ^ a) := by decide +kernel
theorem p_le14 : ∀ a, a < 15 → 1 ≤ 2 ^ a ∧ 2 ^ a ≤ 16384 := by decide +kernel
theorem rsi_ne {a : Nat} {b : Option Nat} {c : Nat → Int32} (ha : a < 2 ^ 14) (hb : rsg A c a b) : rsi b = -1 ↔ b = none := by
  cases b with
  | none => exact ⟨fun _ => rfl, fun _ => rfl⟩
  | some v =>
    have := nsb_le (hb v rfl).1
    exact ⟨fun z => absurd z (sn_ne1 (by omega)), fun z => by cases z⟩
theorem q_ransom (h : Rel A R t C M) (x : Int32) : ∃ r, F_VM_ransom t x C = some r ∧ mq (F_Mo_ransom x M) M (cv r) := by
  obtain ⟨M1, hM1, h0, h, hs⟩ := h.start
  have hw := h.wa
  have hc := h.ca
  have hm := h.ma
  have hst := h.st
  have hn := hw.1
  have h5 := hw.2.1
  unfold F_VM_ransom F_Mo_ransom
  rw [hM1]
  rcases ix_or x (n := A 0 1) (by omega) with hx | ⟨p, hp, rfl⟩
  · refine ⟨.inr 1, by rw [c_chP0 hw hc hx]; rfl, mq_t hs (v := 0) ?_⟩
    simp (disch := omega) only [↓g_in, ↓g_c0, ↓g_c1, ↓reduceIte, ↓y_lt, ↓y_q1, ↓y_q2, ↓sn_q3, ↓sn_t1l, ↓sn_t1r, ↓sn_t2l, ↓sn_t2r, y_q1, y_q2, sn_q3, sn_t1l, sn_t1r, sn_t2l, sn_t2r, nI_clamp, x_leT, x_leF, x_ltT, x_ltF, x_eqT, x_eqF, x_le0T, x_le0F, x_0leT, x_lt0F, x_0ltT, x_0ltF, x_eq0T, x_eq0F, x_le1T, x_le1F, x_1leT, x_1leF, x_1ltT, x_1ltF, x_lt1T, x_lt1F, x_eq1T, x_eq1F, x_m1F, nI_add, nI_1, sn_mul, x_sub, x_sub1, sn_m1, l2, l3, l4, l5, l6, l7, l8, l9, l10, l11, l12, l13, l14, l15, l20, l30, l40, l48, l60, l64, l99, l100, l700, l999, not_true_eq_false, not_false_eq_true, x_t0, x_t1, lts1, x_10, x_1sub, eq_self, Nat.reduceSub, Nat.reduceAdd, Nat.reduceMul, ↓q2_of (m_isP0 hw hm h0 hx)]
  · have s0 : F_Valley_ofSide t 0 C = some (sd A 0) := c_ofSide' (k := 0) hc (by omega)
    have s1 : F_Valley_ofSide t 1 C = some (sd A 1) := c_ofSide' (k := 1) hc (by omega)
    have o0 : F_Mo_ofSide 0 M1 = some (sd A 0) := mo_ofSide' (k := 0) hw hm (by omega)
    have o1 : F_Mo_ofSide 1 M1 = some (sd A 1) := mo_ofSide' (k := 1) hw hm (by omega)
    obtain ⟨a, ha, hall⟩ := lo14_nat (lo14_or (lo14_no hw (c := C 9)) (lo14_so hw (c := C 9)))
    have ha : a < 2 ^ 14 := ha
    have han : ∀ i, bt (nI a) i = true → i < A 0 0 := fun i hi => by
      rw [← hall, b_or] at hi
      unfold rno rso at hi
      rw [b_and, b_and] at hi
      apply Classical.byContradiction
      intro hh
      rw [(hst.1 i (by omega)).2.1] at hi
      simp at hi
    have hp2 := p_le14 (A 0 0) (by omega)
    have hout : ∀ z b, 2 ^ A 0 0 ≤ z → rs A (C 9) p a z b = b := fun z b hz => rs_out (fun hsb => by
      have h1 := nsb_le hsb
      have h2 : a < 2 ^ A 0 0 := by
        apply Nat.lt_pow_two_of_testBit
        intro i hi
        cases e : a.testBit i
        · rfl
        · by_cases h32 : i < 32
          · rw [← bt_nI h32] at e
            have := han i e
            omega
          · rw [Nat.testBit_lt_two_pow (Nat.lt_of_lt_of_le ha (Nat.pow_le_pow_right (by omega) (by omega)))] at e
            cases e
      omega)
    have cl : F_Choir_ransomed t (nI p) C = some (rsi (gz (rs A (C 9) p a) 16384 0 none)) := by
      have ec := c_canBeSung (p := p) (x := C 9 0 ||| nI a) hw hc (by omega)
      unfold F_Choir_ransomed
      rw [s0, sn_q1, y_lt, s1, sn_q1, y_lt, y_lt]
      show sd_q1 (F_Valley_canBeSung t (nI p) (C 9 0 ||| (rno A (C 9) ||| rso A (C 9))) C) (fun r6 => if ¬ r6 = 0 then F_Choir_ransomed_36 t C sd_fu (nI p) (rno A (C 9)) (rso A (C 9)) (rno A (C 9) ||| rso A (C 9)) (-1) 1000 0 0 else some (-1)) = _
      rw [hall, ec, sn_q1]
      cases e : cs A (C 9 0 ||| nI a) p 0
      · rw [if_neg (by decide), gz_id]
        · rfl
        · intro z _ _
          unfold rs
          cases e1 : rsb z a
          · rfl
          · have hz := rsb_iff.mp e1
            have : cs A (C 9 0 ||| nI z) p 0 = false := by
              cases e2 : cs A (C 9 0 ||| nI z) p 0
              · rfl
              · rw [cs_mono (y := C 9 0 ||| nI a) (fun i hi hb => by
                  rw [b_or, Bool.or_eq_true] at hb ⊢
                  exact hb.imp id (fun q => by rw [bt_nI (by omega)] at q ⊢; exact hz i q)) e2] at e
                cases e
            rw [this, Bool.and_false]
            rfl
      · rw [if_pos rfl, if_pos n10]
        exact c_rl hw hc (by omega) ha hall 16384 sd_fu 0 0 none (by omega) (by rw [sd_fu_val]; omega) (fun i hi => by rw [Nat.zero_testBit] at hi; cases hi) (Nat.le_refl _) (fun v hv => by cases hv)
    refine ⟨.inl (rsi (gz (rs A (C 9) p a) 16384 0 none)), ?_, mq_v (M' := M1) ?_ h0 hs⟩
    · simp (disch := omega) only [↓g_in, ↓g_c0, ↓g_c1, ↓reduceIte, ↓y_lt, ↓y_q1, ↓y_q2, ↓sn_q3, ↓sn_t1l, ↓sn_t1r, ↓sn_t2l, ↓sn_t2r, y_q1, y_q2, sn_q3, sn_t1l, sn_t1r, sn_t2l, sn_t2r, nI_clamp, x_leT, x_leF, x_ltT, x_ltF, x_eqT, x_eqF, x_le0T, x_le0F, x_0leT, x_lt0F, x_0ltT, x_0ltF, x_eq0T, x_eq0F, x_le1T, x_le1F, x_1leT, x_1leF, x_1ltT, x_1ltF, x_lt1T, x_lt1F, x_eq1T, x_eq1F, x_m1F, nI_add, nI_1, sn_mul, x_sub, x_sub1, sn_m1, l2, l3, l4, l5, l6, l7, l8, l9, l10, l11, l12, l13, l14, l15, l20, l30, l40, l48, l60, l64, l99, l100, l700, l999, not_true_eq_false, not_false_eq_true, x_t0, x_t1, lts1, x_10, x_1sub, eq_self, Nat.reduceSub, Nat.reduceAdd, Nat.reduceMul, ↓t1_of (c_chP1 hw hc hp), cl]
    · have e14 : gz (rs A (C 9) p a) 16384 0 none = itr (rs A (C 9) p a) (2 ^ A 0 0) none := by
        rw [itr_gz, show 16384 = 2 ^ A 0 0 + (16384 - 2 ^ A 0 0) by omega, gz_add, gz_id (j := 0 + 2 ^ A 0 0)]
        intro z h1 _
        exact hout z _ (by omega)
      rw [e14]
      have lp := lp_in (fun f j b => F_Mo_ransom_25 f (nI p) (C 9 0) (C 9 1) (rsi b) j M1) (fun b => some (rsi b, M1)) (rs A (C 9) p a) (fun _ b => rsg A (C 9) a b) (2 ^ A 0 0) none (fun v hv => by cases hv) (by omega) ?_ ?_
      · simp (disch := omega) only [↓g_in, ↓g_c0, ↓g_c1, ↓reduceIte, ↓y_lt, ↓y_q1, ↓y_q2, ↓sn_q3, ↓sn_t1l, ↓sn_t1r, ↓sn_t2l, ↓sn_t2r, y_q1, y_q2, sn_q3, sn_t1l, sn_t1r, sn_t2l, sn_t2r, nI_clamp, x_leT, x_leF, x_ltT, x_ltF, x_eqT, x_eqF, x_le0T, x_le0F, x_0leT, x_lt0F, x_0ltT, x_0ltF, x_eq0T, x_eq0F, x_le1T, x_le1F, x_1leT, x_1leF, x_1ltT, x_1ltF, x_lt1T, x_lt1F, x_eq1T, x_eq1F, x_m1F, nI_add, nI_1, sn_mul, x_sub, x_sub1, sn_m1, l2, l3, l4, l5, l6, l7, l8, l9, l10, l11, l12, l13, l14, l15, l20, l30, l40, l48, l60, l64, l99, l100, l700, l999, not_true_eq_false, not_false_eq_true, x_t0, x_t1, lts1, x_10, x_1sub, eq_self, Nat.reduceSub, Nat.reduceAdd, Nat.reduceMul, ↓q2_of (m_isP1 hw hm h0 hp), ↓q1_of (mo_so0 hw hm hst), ↓q1_of (mo_so1 hw hm hst)]
        exact lp.1
      · intro f b _
        show F_Mo_ransom_25B (F_Mo_ransom_25 f) (nI p) (C 9 0) (C 9 1) (rsi b) (nI (2 ^ A 0 0)) M1 = _
        unfold F_Mo_ransom_25B
        simp (disch := omega) only [↓g_in, ↓g_c0, ↓g_c1, ↓reduceIte, ↓y_lt, ↓y_q1, ↓y_q2, ↓sn_q3, ↓sn_t1l, ↓sn_t1r, ↓sn_t2l, ↓sn_t2r, y_q1, y_q2, sn_q3, sn_t1l, sn_t1r, sn_t2l, sn_t2r, nI_clamp, x_leT, x_leF, x_ltT, x_ltF, x_eqT, x_eqF, x_le0T, x_le0F, x_0leT, x_lt0F, x_0ltT, x_0ltF, x_eq0T, x_eq0F, x_le1T, x_le1F, x_1leT, x_1leF, x_1ltT, x_1ltF, x_lt1T, x_lt1F, x_eq1T, x_eq1F, x_m1F, nI_add, nI_1, sn_mul, x_sub, x_sub1, sn_m1, l2, l3, l4, l5, l6, l7, l8, l9, l10, l11, l12, l13, l14, l15, l20, l30, l40, l48, l60, l64, l99, l100, l700, l999, not_true_eq_false, not_false_eq_true, x_t0, x_t1, lts1, x_10, x_1sub, eq_self, Nat.reduceSub, Nat.reduceAdd, Nat.reduceMul, hm.1, b1_p14 (A 0 0) (show A 0 0 < 15 by omega)]
      · intro f z b hz hb
        refine ⟨rsg_s hb, ?_⟩
        have hz14 : z < 2 ^ 14 := by omega
        have hlz := lo14_x hz14
        have p1 := pc_le (nI z &&& sd A 0)
        have p2 := pc_le (nI z &&& sd A 1)
        have p3 := pc_le (nI z)
        have hsub := nsb_iff (a := a) hz14
        have bta : ∀ i, bt (nI a) i = (bt (C 9 1) i && (bt (sd A 0) i || bt (sd A 1) i)) := fun i => by
          rw [← hall, b_or]
          unfold rno rso
          rw [b_and, b_and]
          cases bt (sd A 0) i <;> cases bt (sd A 1) i <;> cases bt (C 9 1) i <;> rfl
        show F_Mo_ransom_25B (F_Mo_ransom_25 f) (nI p) (C 9 0) (C 9 1) (rsi b) (nI z) M1 = F_Mo_ransom_25 f (nI p) (C 9 0) (C 9 1) (rsi (rs A (C 9) p a z b)) (nI (z + 1)) M1
        unfold F_Mo_ransom_25B
        by_cases k1 : nI z &&& (C 9 1 ^^^ -1) = 0
        · have k1' := (an0_iff hlz).mp k1
          have n0 : nI z &&& sd A 0 = nI z &&& rno A (C 9) := by
            apply b_ext14 (lo14_and hlz) (lo14_and hlz)
            intro i hi
            unfold rno
            rw [b_and, b_and, b_and]
            cases e : bt (nI z) i
            · rfl
            · rw [k1' i hi e, Bool.and_true]
          have n1 : nI z &&& sd A 1 = nI z &&& rso A (C 9) := by
            apply b_ext14 (lo14_and hlz) (lo14_and hlz)
            intro i hi
            unfold rso
            rw [b_and, b_and, b_and]
            cases e : bt (nI z) i
            · rfl
            · rw [k1' i hi e, Bool.and_true]
          by_cases k2 : pc (nI z &&& sd A 0) = pc (nI z &&& sd A 1)
          · have k2' : rse A (C 9) z = true := by unfold rse; rw [← n0, ← n1, decide_eq_true k2]
            by_cases k3 : 2 * pc (nI z &&& sd A 0) = pc (nI z)
            · have hin : nsb z a := by
                rw [hsub]
                intro i hi hb1
                rw [bta, k1' i hi hb1, Bool.true_and]
                cases e : (bt (sd A 0) i || bt (sd A 1) i)
                · exfalso
                  have h1 : pc (nI z) = cn (fun i => bt (nI z) i && bt (sd A 0) i) 14 + cn (fun i => bt (nI z) i && !bt (sd A 0) i) 14 := cn_split
                  have h2 : cn (fun i => bt (nI z) i && bt (sd A 0) i) 14 = pc (nI z &&& sd A 0) := cn_congr (fun i _ => by rw [b_and])
                  have h3 : cn (bt (nI z &&& sd A 1)) 14 < cn (fun i => bt (nI z) i && !bt (sd A 0) i) 14 := by
                    refine cn_lt (fun j hj hb2 => ?_) ⟨i, hi, ?_, ?_⟩
                    · rw [b_and, Bool.and_eq_true] at hb2
                      have := sd_dis hw (i := j)
                      rw [hb2.2, Bool.and_true] at this
                      rw [hb2.1, this]
                      rfl
                    · rw [b_and, hb1]
                      rw [Bool.or_eq_false_iff] at e
                      rw [e.2]; rfl
                    · rw [hb1]
                      rw [Bool.or_eq_false_iff] at e
                      rw [e.1]; rfl
                  have h4 : cn (bt (nI z &&& sd A 1)) 14 = pc (nI z &&& sd A 1) := rfl
                  omega
                · rfl
              have hin' := rsb_iff.mpr hin
              have em := mo_canBeSung (p := p) (x := C 9 0 ||| nI z) (u := 0) hw hm (by omega) (by decide)
              have em : F_Mo_canBeSung (C 9 0 ||| nI z) (nI p) 0 M1 = some (if cs A (C 9 0 ||| nI z) p 0 = true then 1 else 0) := em
              have e67 : F_Mo_ransom_67 (F_Mo_ransom_25 f) (nI p) (C 9 0) (C 9 1) (rsi b) (nI z) M1 = F_Mo_ransom_25 f (nI p) (C 9 0) (C 9 1) (rsi (if cs A (C 9 0 ||| nI z) p 0 then some z else b)) (nI (z + 1)) M1 := by
                unfold F_Mo_ransom_67
                rw [em, sn_q1, nI_1]
                cases cs A (C 9 0 ||| nI z) p 0
                · rfl
                · rfl
              have ers : rs A (C 9) p a z b = if rsl z b then (if cs A (C 9 0 ||| nI z) p 0 then some z else b) else b := by
                unfold rs
                rw [hin', k2']
                cases rsl z b <;> cases cs A (C 9 0 ||| nI z) p 0 <;> rfl
              rw [ers]
              cases b with
              | none =>
                rw [show rsl z none = true from rfl, if_pos rfl, ← e67, show rsi none = -1 from rfl]
                rw [k2] at k3
                simp (disch := omega) only [↓g_in, ↓g_c0, ↓g_c1, ↓reduceIte, ↓y_lt, ↓y_q1, ↓y_q2, ↓sn_q3, ↓sn_t1l, ↓sn_t1r, ↓sn_t2l, ↓sn_t2r, y_q1, y_q2, sn_q3, sn_t1l, sn_t1r, sn_t2l, sn_t2r, nI_clamp, x_leT, x_leF, x_ltT, x_ltF, x_eqT, x_eqF, x_le0T, x_le0F, x_0leT, x_lt0F, x_0ltT, x_0ltF, x_eq0T, x_eq0F, x_le1T, x_le1F, x_1leT, x_1leF, x_1ltT, x_1ltF, x_lt1T, x_lt1F, x_eq1T, x_eq1F, x_m1F, nI_add, nI_1, sn_mul, x_sub, x_sub1, sn_m1, l2, l3, l4, l5, l6, l7, l8, l9, l10, l11, l12, l13, l14, l15, l20, l30, l40, l48, l60, l64, l99, l100, l700, l999, not_true_eq_false, not_false_eq_true, x_t0, x_t1, lts1, x_10, x_1sub, eq_self, Nat.reduceSub, Nat.reduceAdd, Nat.reduceMul, hm.1, b1_p14 (A 0 0) (show A 0 0 < 15 by omega), o0, o1, mo_bits, k1, k2, k3]
              | some v =>
                have hv := nsb_le (hb v rfl).1
                have p4 := pc_le (nI v)
                by_cases k4 : pc (nI z) < pc (nI v)
                · have k4' : rsl z (some v) = true := decide_eq_true k4
                  rw [k4', if_pos rfl]
                  have e8 : rsi (some v) = nI v := rfl
                  rw [← e67, e8]
                  rw [k2] at k3
                  simp (disch := omega) only [↓g_in, ↓g_c0, ↓g_c1, ↓reduceIte, ↓y_lt, ↓y_q1, ↓y_q2, ↓sn_q3, ↓sn_t1l, ↓sn_t1r, ↓sn_t2l, ↓sn_t2r, y_q1, y_q2, sn_q3, sn_t1l, sn_t1r, sn_t2l, sn_t2r, nI_clamp, x_leT, x_leF, x_ltT, x_ltF, x_eqT, x_eqF, x_le0T, x_le0F, x_0leT, x_lt0F, x_0ltT, x_0ltF, x_eq0T, x_eq0F, x_le1T, x_le1F, x_1leT, x_1leF, x_1ltT, x_1ltF, x_lt1T, x_lt1F, x_eq1T, x_eq1F, x_m1F, nI_add, nI_1, sn_mul, x_sub, x_sub1, sn_m1, l2, l3, l4, l5, l6, l7, l8, l9, l10, l11, l12, l13, l14, l15, l20, l30, l40, l48, l60, l64, l99, l100, l700, l999, not_true_eq_false, not_false_eq_true, x_t0, x_t1, lts1, x_10, x_1sub, eq_self, Nat.reduceSub, Nat.reduceAdd, Nat.reduceMul, hm.1, b1_p14 (A 0 0) (show A 0 0 < 15 by omega), o0, o1, mo_bits, k1, k2, k3, k4]
                · have k4' : rsl z (some v) = false := decide_eq_false k4
                  rw [k4', if_neg (show ¬ (false = true) by decide)]
                  have e8 : rsi (some v) = nI v := rfl
                  rw [e8]
                  rw [k2] at k3
                  simp (disch := omega) only [↓g_in, ↓g_c0, ↓g_c1, ↓reduceIte, ↓y_lt, ↓y_q1, ↓y_q2, ↓sn_q3, ↓sn_t1l, ↓sn_t1r, ↓sn_t2l, ↓sn_t2r, y_q1, y_q2, sn_q3, sn_t1l, sn_t1r, sn_t2l, sn_t2r, nI_clamp, x_leT, x_leF, x_ltT, x_ltF, x_eqT, x_eqF, x_le0T, x_le0F, x_0leT, x_lt0F, x_0ltT, x_0ltF, x_eq0T, x_eq0F, x_le1T, x_le1F, x_1leT, x_1leF, x_1ltT, x_1ltF, x_lt1T, x_lt1F, x_eq1T, x_eq1F, x_m1F, nI_add, nI_1, sn_mul, x_sub, x_sub1, sn_m1, l2, l3, l4, l5, l6, l7, l8, l9, l10, l11, l12, l13, l14, l15, l20, l30, l40, l48, l60, l64, l99, l100, l700, l999, not_true_eq_false, not_false_eq_true, x_t0, x_t1, lts1, x_10, x_1sub, eq_self, Nat.reduceSub, Nat.reduceAdd, Nat.reduceMul, hm.1, b1_p14 (A 0 0) (show A 0 0 < 15 by omega), o0, o1, mo_bits, k1, k2, k3, k4]
            · have hnin : ¬ nsb z a := fun hh => by
                have := rs_pc hw hall hh
                rw [← n0, ← n1] at this
                omega
              rw [rs_out hnin]
              rw [k2] at k3
              simp (disch := omega) only [↓g_in, ↓g_c0, ↓g_c1, ↓reduceIte, ↓y_lt, ↓y_q1, ↓y_q2, ↓sn_q3, ↓sn_t1l, ↓sn_t1r, ↓sn_t2l, ↓sn_t2r, y_q1, y_q2, sn_q3, sn_t1l, sn_t1r, sn_t2l, sn_t2r, nI_clamp, x_leT, x_leF, x_ltT, x_ltF, x_eqT, x_eqF, x_le0T, x_le0F, x_0leT, x_lt0F, x_0ltT, x_0ltF, x_eq0T, x_eq0F, x_le1T, x_le1F, x_1leT, x_1leF, x_1ltT, x_1ltF, x_lt1T, x_lt1F, x_eq1T, x_eq1F, x_m1F, nI_add, nI_1, sn_mul, x_sub, x_sub1, sn_m1, l2, l3, l4, l5, l6, l7, l8, l9, l10, l11, l12, l13, l14, l15, l20, l30, l40, l48, l60, l64, l99, l100, l700, l999, not_true_eq_false, not_false_eq_true, x_t0, x_t1, lts1, x_10, x_1sub, eq_self, Nat.reduceSub, Nat.reduceAdd, Nat.reduceMul, hm.1, b1_p14 (A 0 0) (show A 0 0 < 15 by omega), o0, o1, mo_bits, k1, k2, k3]
          · have k2' : rse A (C 9) z = false := by unfold rse; rw [← n0, ← n1, decide_eq_false k2]
            have : rs A (C 9) p a z b = b := by unfold rs; rw [k2']; simp
            rw [this]
            simp (disch := omega) only [↓g_in, ↓g_c0, ↓g_c1, ↓reduceIte, ↓y_lt, ↓y_q1, ↓y_q2, ↓sn_q3, ↓sn_t1l, ↓sn_t1r, ↓sn_t2l, ↓sn_t2r, y_q1, y_q2, sn_q3, sn_t1l, sn_t1r, sn_t2l, sn_t2r, nI_clamp, x_leT, x_leF, x_ltT, x_ltF, x_eqT, x_eqF, x_le0T, x_le0F, x_0leT, x_lt0F, x_0ltT, x_0ltF, x_eq0T, x_eq0F, x_le1T, x_le1F, x_1leT, x_1leF, x_1ltT, x_1ltF, x_lt1T, x_lt1F, x_eq1T, x_eq1F, x_m1F, nI_add, nI_1, sn_mul, x_sub, x_sub1, sn_m1, l2, l3, l4, l5, l6, l7, l8, l9, l10, l11, l12, l13, l14, l15, l20, l30, l40, l48, l60, l64, l99, l100, l700, l999, not_true_eq_false, not_false_eq_true, x_t0, x_t1, lts1, x_10, x_1sub, eq_self, Nat.reduceSub, Nat.reduceAdd, Nat.reduceMul, hm.1, b1_p14 (A 0 0) (show A 0 0 < 15 by omega), o0, o1, mo_bits, k1, k2]
        · have hnin : ¬ nsb z a := fun hh => k1 ((an0_iff hlz).mpr (fun i hi hb1 => by
            have := hsub.mp hh i hi hb1
            rw [bta, Bool.and_eq_true] at this
            exact this.1))
          rw [rs_out hnin]
          simp (disch := omega) only [↓g_in, ↓g_c0, ↓g_c1, ↓reduceIte, ↓y_lt, ↓y_q1, ↓y_q2, ↓sn_q3, ↓sn_t1l, ↓sn_t1r, ↓sn_t2l, ↓sn_t2r, y_q1, y_q2, sn_q3, sn_t1l, sn_t1r, sn_t2l, sn_t2r, nI_clamp, x_leT, x_leF, x_ltT, x_ltF, x_eqT, x_eqF, x_le0T, x_le0F, x_0leT, x_lt0F, x_0ltT, x_0ltF, x_eq0T, x_eq0F, x_le1T, x_le1F, x_1leT, x_1leF, x_1ltT, x_1ltF, x_lt1T, x_lt1F, x_eq1T, x_eq1F, x_m1F, nI_add, nI_1, sn_mul, x_sub, x_sub1, sn_m1, l2, l3, l4, l5, l6, l7, l8, l9, l10, l11, l12, l13, l14, l15, l20, l30, l40, l48, l60, l64, l99, l100, l700, l999, not_true_eq_false, not_false_eq_true, x_t0, x_t1, lts1, x_10, x_1sub, eq_self, Nat.reduceSub, Nat.reduceAdd, Nat.reduceMul, hm.1, b1_p14 (A 0 0) (show A 0 0 < 15 by omega), o0, mo_bits, k1]
end QU
