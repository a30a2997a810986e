/-! ===== numbers, bits, loops (bt and its rows: kit/laws/BITS.to-paste) ===== -/
def bt (x : Int32) (i : Nat) : Bool := x.toBitVec.getLsbD i
theorem b_ext {x y : Int32} (h : ∀ i, i < 32 → bt x i = bt y i) : x = y := Int32.toBitVec_inj.mp (BitVec.eq_of_getLsbD_eq (fun i hi => h i hi))
theorem b_or (x y : Int32) (i : Nat) : bt (x ||| y) i = (bt x i || bt y i) := by unfold bt; rw [Int32.toBitVec_or, BitVec.getLsbD_or]
theorem b_and (x y : Int32) (i : Nat) : bt (x &&& y) i = (bt x i && bt y i) := by unfold bt; rw [Int32.toBitVec_and, BitVec.getLsbD_and]
theorem b_xor (x y : Int32) (i : Nat) : bt (x ^^^ y) i = (bt x i ^^ bt y i) := by unfold bt; rw [Int32.toBitVec_xor, BitVec.getLsbD_xor]
theorem b_big {x : Int32} {i : Nat} (h : 32 ≤ i) : bt x i = false := BitVec.getLsbD_of_ge _ _ h
theorem b_m1 : ∀ i, i < 32 → bt (-1) i = true := by decide +kernel
theorem b_0 (i : Nat) : bt 0 i = false := BitVec.getLsbD_zero
theorem s_l : ∀ n, n < 32 → ((nI n &&& 31).toBitVec.smod 32).toNat = n := by decide +kernel
theorem b_shl (n : Nat) (hn : n < 32) (x : Int32) {i : Nat} (hi : i < 32) : bt (x <<< (nI n &&& 31)) i = (decide (n ≤ i) && bt x (i - n)) := by
  unfold bt
  rw [Int32.toBitVec_shiftLeft]
  show (x.toBitVec <<< ((nI n &&& 31).toBitVec.smod 32).toNat).getLsbD i = _
  rw [s_l n hn, BitVec.getLsbD_shiftLeft]
  rcases Nat.lt_or_ge i n with h | h
  · simp [h, Nat.not_le.mpr h]
  · simp [hi, h, Nat.not_lt.mpr h]
theorem b_sshr (n : Nat) (hn : n < 32) (x : Int32) {i : Nat} (hi : i < 32) : bt (x >>> (nI n &&& 31)) i = if n + i < 32 then bt x (n + i) else bt x 31 := by
  unfold bt
  rw [Int32.toBitVec_shiftRight]
  show (x.toBitVec.sshiftRight ((nI n &&& 31).toBitVec.smod 32).toNat).getLsbD i = _
  rw [s_l n hn, BitVec.getLsbD_sshiftRight, BitVec.msb_eq_getLsbD_last]
  simp [hi]
theorem b_1 : ∀ i, i < 32 → bt 1 i = decide (i = 0) := by decide +kernel
/-- one bit -/
def b1 (s : Nat) : Int32 := (1 : Int32) <<< (nI s &&& 31)
theorem bt_b1 {s i : Nat} (hs : s < 32) (hi : i < 32) : bt (b1 s) i = decide (s = i) := by
  unfold b1
  rw [b_shl s hs _ hi]
  by_cases h : s ≤ i
  · rw [b_1 _ (by omega), decide_eq_true h, Bool.true_and]
    by_cases e : s = i
    · subst e; simp
    · rw [decide_eq_false (by omega), decide_eq_false e]
  · rw [decide_eq_false h, decide_eq_false (by omega), Bool.false_and]
theorem bt_test (x : Int32) {i : Nat} (hi : i < 32) : (x >>> (nI i &&& 31)) &&& 1 = if bt x i then 1 else 0 := by
  apply b_ext
  intro j hj
  rw [b_and, b_sshr i hi x hj, b_1 j hj]
  by_cases e : j = 0
  · subst e
    rw [if_pos (by omega), Nat.add_zero]
    cases bt x i <;> decide
  · rw [decide_eq_false e, Bool.and_false]
    split
    · rw [b_1 j hj, decide_eq_false e]
    · rw [b_0]
theorem bt_t0 (x : Int32) {i : Nat} (hi : i < 32) : (x >>> (nI i &&& 31)) &&& 1 = 0 ↔ bt x i = false := by
  rw [bt_test x hi]
  cases bt x i <;> simp
theorem bt_t1 (x : Int32) {i : Nat} (hi : i < 32) : (x >>> (nI i &&& 31)) &&& 1 = 1 ↔ bt x i = true := by
  rw [bt_test x hi]
  cases bt x i <;> simp
theorem bt_a0 (x : Int32) {i : Nat} (hi : i < 32) : x &&& b1 i = 0 ↔ bt x i = false := by
  constructor
  · intro h
    have := congrArg (fun z => bt z i) h
    simp only [b_and, bt_b1 hi hi, b_0] at this
    simpa using this
  · intro h
    apply b_ext
    intro j hj
    rw [b_and, bt_b1 hi hj, b_0]
    by_cases e : i = j
    · subst e; rw [h]; rfl
    · rw [decide_eq_false e, Bool.and_false]
theorem sn_in {j N : Nat} (h : j < 2 ^ 31) : sm_in (nI j) N = decide (j < N) := by
  unfold sm_in
  rw [nI_clamp h, decide_eq_false (nI_pos h)]
  rfl
theorem sn_in' {j N : Nat} (hj : j < N) (hN : N < 2 ^ 31) : sm_in (nI j) N = true := by rw [sn_in (by omega), decide_eq_true hj]
theorem sn_mul (a b : Nat) : nI a * nI b = nI (a * b) := (Int32.ofNat_mul a b).symm
theorem sn_sub {a b : Nat} (h : b ≤ a) : nI a - nI b = nI (a - b) := (Int32.ofNat_sub a b h).symm
theorem sn_gu {α : Type} {c : Prop} [Decidable c] {x : Option α} (h : c) : sd_gu c x = x := if_pos h
theorem sn_n1 : nI 1 = 1 := rfl
theorem sn_ne1 {j : Nat} (h : j < 2 ^ 31) : ¬ nI j = -1 := by
  intro e
  have h1 := congrArg Int32.toInt e
  rw [nI_toInt h] at h1
  have h2 : (-1 : Int32).toInt = -1 := by decide
  omega
/-- a set of those that are so, and how many -/
def bs (p : Nat → Bool) : Nat → Int32
  | 0 => 0
  | k + 1 => if p k then bs p k ||| b1 k else bs p k
def cn (p : Nat → Bool) : Nat → Nat
  | 0 => 0
  | k + 1 => cn p k + (if p k then 1 else 0)
theorem bt_bs {p : Nat → Bool} {i : Nat} (hi : i < 32) : ∀ {n : Nat}, n ≤ 32 → bt (bs p n) i = (decide (i < n) && p i)
  | 0, _ => by rw [bs, b_0]; simp
  | n + 1, hn => by
    have ih := bt_bs (p := p) hi (n := n) (by omega)
    rw [bs]
    by_cases e : n = i
    · subst e
      split
      · rename_i h; rw [b_or, ih, bt_b1 (by omega) hi, h]; simp
      · rename_i h; rw [ih]; simp [h]
    · have e2 : decide (i < n + 1) = decide (i < n) := by
        by_cases h : i < n
        · rw [decide_eq_true h, decide_eq_true (by omega)]
        · rw [decide_eq_false h, decide_eq_false (by omega)]
      rw [e2]
      split
      · rw [b_or, ih, bt_b1 (by omega) hi, decide_eq_false e, Bool.or_false]
      · exact ih
theorem cn_le (p : Nat → Bool) : ∀ n, cn p n ≤ n
  | 0 => Nat.le_refl _
  | n + 1 => by rw [cn]; have := cn_le p n; split <;> omega
theorem cn_congr {p q : Nat → Bool} : ∀ {n : Nat}, (∀ i, i < n → p i = q i) → cn p n = cn q n
  | 0, _ => rfl
  | n + 1, h => by rw [cn, cn, cn_congr (fun i hi => h i (by omega)), h n (by omega)]
theorem cn_mono {p q : Nat → Bool} : ∀ {n : Nat}, (∀ i, i < n → p i = true → q i = true) → cn p n ≤ cn q n
  | 0, _ => Nat.le_refl _
  | n + 1, h => by
    have ih := cn_mono (p := p) (q := q) (n := n) (fun i hi => h i (by omega))
    have h2 := h n (by omega)
    rw [cn, cn]
    cases hp : p n
    · simp; omega
    · rw [h2 hp]; simp; omega
theorem cn_false : ∀ {p : Nat → Bool} {n : Nat}, (∀ i, i < n → p i = false) → cn p n = 0
  | _, 0, _ => rfl
  | p, n + 1, h => by rw [cn, cn_false (fun i hi => h i (by omega)), h n (by omega)]; rfl
/-- no bits but the first fourteen -/
def lo14 (x : Int32) : Prop := ∀ i, 14 ≤ i → bt x i = false
def pc (x : Int32) : Nat := cn (bt x) 14
theorem lo14_and {x y : Int32} (h : lo14 x) : lo14 (x &&& y) := fun i hi => by rw [b_and, h i hi]; rfl
theorem lo14_and' {x y : Int32} (h : lo14 y) : lo14 (x &&& y) := fun i hi => by rw [b_and, h i hi, Bool.and_false]
theorem lo14_or {x y : Int32} (h : lo14 x) (h2 : lo14 y) : lo14 (x ||| y) := fun i hi => by rw [b_or, h i hi, h2 i hi]; rfl
theorem lo14_bs {p : Nat → Bool} {n : Nat} (hn : n ≤ 14) : lo14 (bs p n) := fun i hi => by
  by_cases h : i < 32
  · rw [bt_bs h (by omega), decide_eq_false (by omega)]; rfl
  · exact b_big (by omega)
theorem lo14_b1 {s : Nat} (h : s < 14) : lo14 (b1 s) := fun i hi => by
  by_cases h : i < 32
  · rw [bt_b1 (by omega) h, decide_eq_false (by omega)]
  · exact b_big (by omega)
theorem lo14_0 : lo14 0 := fun i _ => b_0 i
theorem b_ext14 {x y : Int32} (hx : lo14 x) (hy : lo14 y) (h : ∀ i, i < 14 → bt x i = bt y i) : x = y := b_ext fun i _ => by
  by_cases h1 : i < 14
  · exact h i h1
  · rw [hx i (by omega), hy i (by omega)]
/-- loops with a counter -/
def lpr {α β : Type} (step : Nat → α → α ⊕ β) (fin : α → β) : Nat → Nat → α → β
  | 0, _, a => fin a
  | m + 1, j, a => match step j a with
    | .inl a' => lpr step fin m (j + 1) a'
    | .inr r => r
theorem lp_gen {α β : Type} (L : Nat → Int32 → α → Option β) (step : Nat → α → α ⊕ β) (fin : α → β) (N : Nat) (P : Nat → α → Prop)
    (h0 : ∀ f a, P N a → L (f + 1) (nI N) a = some (fin a))
    (h1 : ∀ f j a, j < N → P j a → (∀ a', step j a = .inl a' → P (j + 1) a' ∧ L (f + 1) (nI j) a = L f (nI (j + 1)) a') ∧ (∀ r, step j a = .inr r → L (f + 1) (nI j) a = some r)) :
    ∀ m j f a, j + m = N → m < f → P j a → L f (nI j) a = some (lpr step fin m j a)
  | 0, j, f, a, hj, hf, hP => by
    obtain ⟨f, rfl⟩ : ∃ g, f = g + 1 := ⟨f - 1, by omega⟩
    have : j = N := by omega
    subst this
    exact h0 f a hP
  | m + 1, j, f, a, hj, hf, hP => by
    obtain ⟨f, rfl⟩ : ∃ g, f = g + 1 := ⟨f - 1, by omega⟩
    obtain ⟨g1, g2⟩ := h1 f j a (by omega) hP
    rw [lpr]
    cases hs : step j a with
    | inl a' =>
      obtain ⟨h3, h4⟩ := g1 a' hs
      rw [h4]
      exact lp_gen L step fin N P h0 h1 m (j + 1) f a' (by omega) (by omega) h3
    | inr r => exact g2 r hs
/-- .. without an early end -/
def itr {α : Type} (step : Nat → α → α) : Nat → α → α
  | 0, a => a
  | k + 1, a => step k (itr step k a)
theorem lp_it {α β : Type} (L : Nat → Int32 → α → Option β) (step : Nat → α → α) (fin : α → β) (N : Nat) (P : Nat → α → Prop)
    (h0 : ∀ f a, P N a → L (f + 1) (nI N) a = some (fin a)) (h1 : ∀ f j a, j < N → P j a → P (j + 1) (step j a) ∧ L (f + 1) (nI j) a = L f (nI (j + 1)) (step j a)) (f : Nat) (a : α) (hf : N < f) (hP : P 0 a) :
    L f (nI 0) a = some (fin (itr step N a)) ∧ P N (itr step N a) := by
  have key : ∀ k, k ≤ N → ∃ g, f = g + k ∧ L f (nI 0) a = L g (nI k) (itr step k a) ∧ P k (itr step k a) := by
    intro k
    induction k with
    | zero => intro _; exact ⟨f, rfl, rfl, hP⟩
    | succ k ih =>
      intro hk
      obtain ⟨g, e, h, hp⟩ := ih (by omega)
      obtain ⟨g, rfl⟩ : ∃ z, g = z + 1 := ⟨g - 1, by omega⟩
      obtain ⟨p1, p2⟩ := h1 g k (itr step k a) (by omega) hp
      exact ⟨g, by omega, by rw [h, p2]; rfl, p1⟩
  obtain ⟨g, e, h, hp⟩ := key N (Nat.le_refl _)
  obtain ⟨g, rfl⟩ : ∃ z, g = z + 1 := ⟨g - 1, by omega⟩
  exact ⟨by rw [h, h0 g _ hp], hp⟩
theorem itr_congr {α : Type} {s1 s2 : Nat → α → α} : ∀ {n : Nat} {a : α}, (∀ j a, j < n → s1 j a = s2 j a) → itr s1 n a = itr s2 n a
  | 0, _, _ => rfl
  | n + 1, a, h => by rw [itr, itr, itr_congr (fun j a hj => h j a (by omega)), h n _ (by omega)]
theorem itr_bs {p : Nat → Bool} : ∀ {n : Nat}, itr (fun j (a : Int32) => if p j then a ||| b1 j else a) n 0 = bs p n
  | 0 => rfl
  | n + 1 => by rw [itr, bs, itr_bs]
theorem sd_fu_val : sd_fu = 100000 := rfl
