/-! ===== the tape: bytes and tokens ===== -/
theorem l97 : (97 : Int32) = nI 97 := nr_ rfl
theorem l122 : (122 : Int32) = nI 122 := nr_ rfl
theorem l57 : (57 : Int32) = nI 57 := nr_ rfl
theorem l31 : (31 : Int32) = nI 31 := nr_ rfl
theorem l33 : (33 : Int32) = nI 33 := nr_ rfl
theorem l41 : (41 : Int32) = nI 41 := nr_ rfl
theorem l42 : (42 : Int32) = nI 42 := nr_ rfl
theorem l43 : (43 : Int32) = nI 43 := nr_ rfl
theorem l44 : (44 : Int32) = nI 44 := nr_ rfl
theorem l45 : (45 : Int32) = nI 45 := nr_ rfl
theorem l46 : (46 : Int32) = nI 46 := nr_ rfl
theorem l47 : (47 : Int32) = nI 47 := nr_ rfl
theorem l49 : (49 : Int32) = nI 49 := nr_ rfl
theorem l50 : (50 : Int32) = nI 50 := nr_ rfl
theorem l51 : (51 : Int32) = nI 51 := nr_ rfl
theorem l52 : (52 : Int32) = nI 52 := nr_ rfl
theorem l53 : (53 : Int32) = nI 53 := nr_ rfl
theorem l54 : (54 : Int32) = nI 54 := nr_ rfl
theorem l55 : (55 : Int32) = nI 55 := nr_ rfl
theorem l56 : (56 : Int32) = nI 56 := nr_ rfl
theorem l58 : (58 : Int32) = nI 58 := nr_ rfl
theorem l59 : (59 : Int32) = nI 59 := nr_ rfl
theorem l61 : (61 : Int32) = nI 61 := nr_ rfl
theorem l96 : (96 : Int32) = nI 96 := nr_ rfl
theorem l130 : (130 : Int32) = nI 130 := nr_ rfl
theorem l10000 : (10000 : Int32) = nI 10000 := nr_ rfl
def ltr (x : Nat) : Bool := decide (97 ≤ x) && decide (x ≤ 122)
def dgt (x : Nat) : Bool := decide (48 ≤ x) && decide (x ≤ 57)
def blk (x : Nat) : Bool := decide (x = 32) || decide (x = 10)
def sgn (x : Nat) : Bool := decide (x = 40) || decide (x = 41) || decide (x = 42) || decide (x = 43) || decide (x = 45) || decide (x = 47) || decide (x = 59) || decide (x = 60) || decide (x = 61)
theorem ltr_iff {x : Nat} : ltr x = true ↔ 97 ≤ x ∧ x ≤ 122 := by unfold ltr; simp
theorem dgt_iff {x : Nat} : dgt x = true ↔ 48 ≤ x ∧ x ≤ 57 := by unfold dgt; simp
theorem ltr_no {x : Nat} : ltr x = false ↔ x < 97 ∨ 122 < x := by unfold ltr; simp; omega
theorem dgt_no {x : Nat} : dgt x = false ↔ x < 48 ∨ 57 < x := by unfold dgt; simp; omega
/-- the end of a run of bytes that are so -/
def rn (p : Nat → Bool) (b : Nat → Nat) : Nat → Nat → Nat
  | 0, i => i
  | m + 1, i => if p (b i) then rn p b m (i + 1) else i
theorem rn_le {p : Nat → Bool} {b : Nat → Nat} : ∀ m i, i ≤ rn p b m i ∧ rn p b m i ≤ i + m
  | 0, i => ⟨Nat.le_refl _, Nat.le_refl _⟩
  | m + 1, i => by
    have := rn_le (p := p) (b := b) m (i + 1)
    unfold rn
    split <;> omega
theorem rn_at {p : Nat → Bool} {b : Nat → Nat} : ∀ m i j, i ≤ j → j < rn p b m i → p (b j) = true
  | 0, i, j, h1, h2 => absurd h2 (by unfold rn; omega)
  | m + 1, i, j, h1, h2 => by
    unfold rn at h2
    split at h2
    · rename_i h
      by_cases e : j = i
      · rw [e]; exact h
      · exact rn_at m (i + 1) j (by omega) h2
    · omega
theorem rn_end {p : Nat → Bool} {b : Nat → Nat} : ∀ m i, rn p b m i < i + m → p (b (rn p b m i)) = false
  | 0, i, h => absurd h (by unfold rn; omega)
  | m + 1, i, h => by
    unfold rn at h ⊢
    split
    · rename_i e
      rw [if_pos e] at h
      exact rn_end m (i + 1) (by omega)
    · rename_i e
      exact Bool.eq_false_iff.mpr e
/-- the end of the token that begins at i -/
def te (b : Nat → Nat) (n i : Nat) : Nat := if ltr (b i) then rn ltr b (n - i) i else if dgt (b i) then rn dgt b (n - i) i else i + 1
theorem te_le {b : Nat → Nat} {n i : Nat} (h : i < n) : i < te b n i ∧ te b n i ≤ n := by
  obtain ⟨m, hm⟩ : ∃ m, n - i = m + 1 := ⟨n - i - 1, by omega⟩
  unfold te
  rw [hm]
  have h1 := rn_le (p := ltr) (b := b) m (i + 1)
  have h2 := rn_le (p := dgt) (b := b) m (i + 1)
  split
  · rename_i e
    unfold rn; rw [if_pos e]; omega
  · split
    · rename_i e
      unfold rn; rw [if_pos e]; omega
    · omega
def skp (b : Nat → Nat) (n i : Nat) : Nat := rn blk b (n - i) i
theorem skp_le {b : Nat → Nat} {n i : Nat} (h : i ≤ n) : i ≤ skp b n i ∧ skp b n i ≤ n := by
  have := rn_le (p := blk) (b := b) (n - i) i
  unfold skp
  omega
/-- where the tokens begin -/
def tp (b : Nat → Nat) (n : Nat) : Nat → Nat
  | 0 => skp b n 0
  | k + 1 => if tp b n k < n then skp b n (te b n (tp b n k)) else n
theorem tp_le {b : Nat → Nat} {n : Nat} : ∀ k, tp b n k ≤ n
  | 0 => (skp_le (Nat.zero_le _)).2
  | k + 1 => by
    unfold tp
    split
    · rename_i h; exact (skp_le (te_le h).2).2
    · omega
theorem tp_lt {b : Nat → Nat} {n k : Nat} (h : tp b n k < n) : tp b n k < tp b n (k + 1) := by
  have h1 := te_le (b := b) h
  have h2 := skp_le (b := b) h1.2
  show _ < (if tp b n k < n then skp b n (te b n (tp b n k)) else n)
  rw [if_pos h]
  omega
theorem tp_ge {b : Nat → Nat} {n : Nat} : ∀ k, k ≤ tp b n k ∨ tp b n k = n
  | 0 => Or.inl (Nat.zero_le _)
  | k + 1 => by
    by_cases h : tp b n k < n
    · have := tp_lt h
      have := tp_ge (b := b) (n := n) k
      omega
    · right
      unfold tp
      rw [if_neg h]
theorem tp_end {b : Nat → Nat} {n k : Nat} (h : tp b n k = n) : ∀ j, tp b n (k + j) = n
  | 0 => h
  | j + 1 => by
    show (if tp b n (k + j) < n then _ else n) = n
    rw [if_neg (by rw [tp_end h j]; omega)]
theorem tp_blk {b : Nat → Nat} {n : Nat} : ∀ k, tp b n k < n → blk (b (tp b n k)) = false
  | 0, h => rn_end (n - 0) 0 (by unfold tp skp at h; omega)
  | k + 1, h => by
    by_cases e : tp b n k < n
    · have h1 := te_le (b := b) e
      have hh : tp b n (k + 1) = skp b n (te b n (tp b n k)) := if_pos e
      rw [hh] at h ⊢
      exact rn_end _ _ (by unfold skp at h; omega)
    · have hh : tp b n (k + 1) = n := if_neg e
      omega
