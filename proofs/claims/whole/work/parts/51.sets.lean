/-! ===== how many sets are so ===== -/
def ins (n : Nat) (s : Nat → Bool) : Nat → Bool := fun i => s i || decide (i = n)
def ct : Nat → ((Nat → Bool) → Bool) → Nat
  | 0, P => if P (fun _ => false) then 1 else 0
  | n + 1, P => ct n P + ct n (fun s => P (ins n s))
theorem cn_add {p : Nat → Bool} {a : Nat} : ∀ {b : Nat}, cn p (a + b) = cn p a + cn (fun i => p (a + i)) b
  | 0 => rfl
  | b + 1 => by
    have ih := cn_add (p := p) (a := a) (b := b)
    show cn p (a + b) + (if p (a + b) then 1 else 0) = cn p a + (cn (fun i => p (a + i)) b + (if p (a + b) then 1 else 0))
    omega
theorem bit_ins {n x : Nat} (hx : x < 2 ^ n) : (fun i => (2 ^ n + x).testBit i) = ins n (fun i => x.testBit i) := by
  funext i
  unfold ins
  rcases Nat.lt_trichotomy i n with h | h | h
  · rw [Nat.testBit_two_pow_add_gt h, decide_eq_false (by omega), Bool.or_false]
  · subst h
    rw [Nat.testBit_two_pow_add_eq, Nat.testBit_lt_two_pow hx]
    simp
  · have h1 : 2 ^ (n + 1) ≤ 2 ^ i := Nat.pow_le_pow_right (by omega) (by omega)
    rw [Nat.pow_succ] at h1
    show (2 ^ n + x).testBit i = (x.testBit i || decide (i = n))
    rw [Nat.testBit_lt_two_pow (show 2 ^ n + x < 2 ^ i by omega), Nat.testBit_lt_two_pow (show x < 2 ^ i by omega), decide_eq_false (by omega)]
    rfl
theorem ct_cn : ∀ n (P : (Nat → Bool) → Bool), cn (fun x => P (fun i => x.testBit i)) (2 ^ n) = ct n P
  | 0, P => by
    show 0 + _ = _
    unfold ct
    simp only [Nat.zero_testBit, Nat.zero_add]
  | n + 1, P => by
    rw [Nat.pow_succ, Nat.mul_two, cn_add, ct_cn n P, ct, ← ct_cn n (fun s => P (ins n s))]
    congr 1
    exact cn_congr (fun x hx => by rw [bit_ins hx])
theorem ct_congr : ∀ n {P Q : (Nat → Bool) → Bool}, (∀ s, (∀ i, n ≤ i → s i = false) → P s = Q s) → ct n P = ct n Q
  | 0, P, Q, h => by rw [ct, ct, h _ (fun _ _ => rfl)]
  | n + 1, P, Q, h => by
    rw [ct, ct, ct_congr n (fun s hs => h s (fun i hi => hs i (by omega))), ct_congr n (P := fun s => P (ins n s)) (Q := fun s => Q (ins n s)) (fun s hs => h _ (fun i hi => by
      unfold ins
      rw [hs i (by omega), decide_eq_false (by omega)]
      rfl))]
theorem ct_false : ∀ n, ct n (fun _ => false) = 0
  | 0 => rfl
  | n + 1 => by rw [ct, ct_false n]
theorem ct_zero {n : Nat} {P : (Nat → Bool) → Bool} (h : ∀ s, (∀ i, n ≤ i → s i = false) → P s = false) : ct n P = 0 := by
  rw [ct_congr n (Q := fun _ => false) h, ct_false]
theorem ct_or : ∀ n {P A B : (Nat → Bool) → Bool}, (∀ s, P s = (A s || B s)) → (∀ s, (A s && B s) = false) → ct n P = ct n A + ct n B
  | 0, P, A, B, h1, h2 => by
    rw [ct, ct, ct, h1]
    have := h2 (fun _ => false)
    cases e1 : A (fun _ => false) <;> cases e2 : B (fun _ => false) <;> rw [e1, e2] at this <;> simp_all
  | n + 1, P, A, B, h1, h2 => by
    rw [ct, ct, ct, ct_or n h1 h2, ct_or n (P := fun s => P (ins n s)) (A := fun s => A (ins n s)) (B := fun s => B (ins n s)) (fun s => h1 _) (fun s => h2 _)]
    omega
theorem ct_le : ∀ n (P : (Nat → Bool) → Bool), ct n P ≤ 2 ^ n
  | 0, P => by rw [ct]; split <;> omega
  | n + 1, P => by
    have h1 := ct_le n P
    have h2 := ct_le n (fun s => P (ins n s))
    rw [ct, Nat.pow_succ]
    omega
theorem ct_to {P : (Nat → Bool) → Bool} {n : Nat} : ∀ {N : Nat}, n ≤ N → (∀ i s, n ≤ i → i < N → P (ins i s) = false) → ct N P = ct n P
  | 0, h, _ => by rw [show n = 0 by omega]
  | N + 1, h, hp => by
    by_cases e : n = N + 1
    · rw [e]
    · rw [ct, ct_zero (P := fun s => P (ins N s)) (fun s _ => hp N s (by omega) (by omega)), ct_to (by omega) (fun i s h1 h2 => hp i s h1 (by omega))]
      rfl
def sz (p s : Nat → Bool) : Nat := cn (fun i => p i && s i) 14
def sz1 (s : Nat → Bool) : Nat := cn s 14
def sbs (W s : Nat → Bool) : Bool := al (fun i => !s i || W i) 14 0
theorem ins_c {a b : Nat} {s : Nat → Bool} : ins a (ins b s) = ins b (ins a s) := by
  funext i
  unfold ins
  cases s i <;> cases decide (i = a) <;> cases decide (i = b) <;> rfl
theorem sz_ins {p s : Nat → Bool} {i : Nat} (hi : i < 14) (hs : s i = false) : sz p (ins i s) = sz p s + (if p i then 1 else 0) := by
  unfold sz
  cases e : p i
  · rw [if_neg (by decide), Nat.add_zero]
    refine cn_congr (fun j hj => ?_)
    unfold ins
    by_cases e2 : j = i
    · subst e2; rw [e]; rfl
    · rw [decide_eq_false e2, Bool.or_false]
  · rw [if_pos rfl]
    refine cn_flip hi (fun j hj hne => ?_) ?_ ?_
    · unfold ins
      rw [decide_eq_false hne, Bool.or_false]
    · rw [hs, Bool.and_false]
    · unfold ins
      rw [e, decide_eq_true rfl, Bool.or_true]
      rfl
theorem sz_0 {p : Nat → Bool} : sz p (fun _ => false) = 0 := cn_false (fun i _ => by rw [Bool.and_false])
theorem sbs_ins {W s : Nat → Bool} {i : Nat} (hi : i < 14) : sbs W (ins i s) = (sbs W s && W i) := by
  unfold sbs
  rw [Bool.eq_iff_iff, Bool.and_eq_true, al_iff, al_iff]
  constructor
  · intro h
    refine ⟨fun j h1 h2 => ?_, ?_⟩
    · have := h j h1 h2
      unfold ins at this
      cases e : s j
      · rfl
      · rw [e] at this; exact this
    · have := h i (by omega) (by omega)
      unfold ins at this
      rw [decide_eq_true rfl, Bool.or_true] at this
      exact this
  · rintro ⟨h1, h2⟩ j h3 h4
    unfold ins
    by_cases e : j = i
    · subst e; rw [h2, Bool.or_true]
    · rw [decide_eq_false e, Bool.or_false]; exact h1 j h3 h4
theorem sbs_0 {W : Nat → Bool} : sbs W (fun _ => false) = true := by
  unfold sbs
  rw [al_iff]
  intro i _ _
  rfl
theorem ct_prod {U V : Nat → Bool} (hd : ∀ i, (U i && V i) = false) : ∀ n, n ≤ 14 → ∀ (R : (Nat → Bool) → Bool), (∀ i s, V i = true → R (ins i s) = R s) → ∀ a b,
    ct n (fun s => sbs (fun i => U i || V i) s && R s && decide (sz U s = a) && decide (sz V s = b)) = ct n (fun s => sbs U s && R s && decide (sz U s = a)) * chs (cn V n) b
  | 0, _, R, hR, a, b => by
    rw [ct, ct, sbs_0, sbs_0, sz_0, sz_0]
    cases b with
    | zero => cases R (fun _ => false) <;> cases decide (0 = a) <;> rfl
    | succ b =>
      rw [decide_eq_false (show ¬ 0 = b + 1 by omega), Bool.and_false]
      show (if false = true then 1 else 0) = _ * chs (cn V 0) (b + 1)
      rw [show chs (cn V 0) (b + 1) = 0 from rfl, Nat.mul_zero]
      rfl
  | n + 1, hn, R, hR, a, b => by
    have ih := ct_prod hd n (by omega)
    rw [ct, ct, ih R hR a b]
    have hdn := hd n
    have key : ∀ s : Nat → Bool, (∀ i, n ≤ i → s i = false) → s n = false := fun s hs => hs n (Nat.le_refl _)
    cases hV : V n
    · cases hU : U n
      · rw [ct_zero (P := fun s => sbs (fun i => U i || V i) (ins n s) && R (ins n s) && decide (sz U (ins n s) = a) && decide (sz V (ins n s) = b)) (fun s _ => by rw [sbs_ins (by omega), hU, hV]; simp),
          ct_zero (P := fun s => sbs U (ins n s) && R (ins n s) && decide (sz U (ins n s) = a)) (fun s _ => by rw [sbs_ins (by omega), hU]; simp), cn, hV]
        simp
      · rw [cn, hV]
        have e1 : ct n (fun s => sbs (fun i => U i || V i) (ins n s) && R (ins n s) && decide (sz U (ins n s) = a) && decide (sz V (ins n s) = b)) = ct n (fun s => sbs (fun i => U i || V i) s && R (ins n s) && decide (sz U s + 1 = a) && decide (sz V s = b)) :=
          ct_congr n (fun s hs => by rw [sbs_ins (by omega), sz_ins (by omega) (key s hs), sz_ins (by omega) (key s hs), hU, hV]; simp)
        have e2 : ct n (fun s => sbs U (ins n s) && R (ins n s) && decide (sz U (ins n s) = a)) = ct n (fun s => sbs U s && R (ins n s) && decide (sz U s + 1 = a)) :=
          ct_congr n (fun s hs => by rw [sbs_ins (by omega), sz_ins (by omega) (key s hs), hU]; simp)
        rw [e1, e2]
        cases a with
        | zero =>
          rw [ct_zero (P := fun s => sbs (fun i => U i || V i) s && R (ins n s) && decide (sz U s + 1 = 0) && decide (sz V s = b)) (fun s _ => by rw [decide_eq_false (show ¬ sz U s + 1 = 0 by omega)]; simp),
            ct_zero (P := fun s => sbs U s && R (ins n s) && decide (sz U s + 1 = 0)) (fun s _ => by rw [decide_eq_false (show ¬ sz U s + 1 = 0 by omega)]; simp)]
          simp
        | succ a =>
          have := ih (fun s => R (ins n s)) (fun i s hi => by rw [ins_c]; exact hR i _ hi) a b
          simp only [Nat.add_right_cancel_iff]
          rw [this, ← Nat.add_mul]
          simp
    · have hU : U n = false := by
        cases e : U n
        · rfl
        · rw [e, hV] at hdn; cases hdn
      have e1 : ct n (fun s => sbs (fun i => U i || V i) (ins n s) && R (ins n s) && decide (sz U (ins n s) = a) && decide (sz V (ins n s) = b)) = ct n (fun s => sbs (fun i => U i || V i) s && R s && decide (sz U s = a) && decide (sz V s + 1 = b)) :=
        ct_congr n (fun s hs => by rw [sbs_ins (by omega), sz_ins (by omega) (key s hs), sz_ins (by omega) (key s hs), hU, hV, hR n s hV]; simp)
      rw [e1, ct_zero (P := fun s => sbs U (ins n s) && R (ins n s) && decide (sz U (ins n s) = a)) (fun s _ => by rw [sbs_ins (by omega), hU]; simp), cn, hV, if_pos rfl, Nat.add_zero]
      cases b with
      | zero =>
        rw [ct_zero (P := fun s => sbs (fun i => U i || V i) s && R s && decide (sz U s = a) && decide (sz V s + 1 = 0)) (fun s _ => by rw [decide_eq_false (show ¬ sz V s + 1 = 0 by omega)]; simp)]
        have c0 : ∀ m, chs m 0 = 1 := fun m => by cases m <;> rfl
        rw [c0, c0, Nat.add_zero]
      | succ b =>
        simp only [Nat.add_right_cancel_iff]
        rw [ih R hR a b, show chs (cn V n + 1) (b + 1) = chs (cn V n) b + chs (cn V n) (b + 1) from rfl, Nat.mul_add]
        omega
def sm (g : Nat → Nat) : Nat → Nat
  | 0 => 0
  | k + 1 => sm g k + g k
theorem sm_congr {g h : Nat → Nat} : ∀ {k : Nat}, (∀ j, j < k → g j = h j) → sm g k = sm h k
  | 0, _ => rfl
  | k + 1, hh => by rw [sm, sm, sm_congr (fun j hj => hh j (by omega)), hh k (by omega)]
theorem itr_sm {g : Nat → Nat} : ∀ {n : Nat}, itr (fun j z => z + g j) n 0 = sm g n
  | 0 => rfl
  | n + 1 => by rw [itr, sm, itr_sm]
theorem ct_part {n : Nat} {Q : (Nat → Bool) → Bool} {g : (Nat → Bool) → Nat} : ∀ k, ct n (fun s => Q s && decide (g s < k)) = sm (fun j => ct n (fun s => Q s && decide (g s = j))) k
  | 0 => ct_zero (fun s _ => by rw [decide_eq_false (by omega), Bool.and_false])
  | k + 1 => by
    rw [sm, ← ct_part (n := n) (Q := Q) (g := g) k]
    refine ct_or n (fun s => ?_) (fun s => ?_)
    · cases Q s
      · rfl
      · rcases Nat.lt_trichotomy (g s) k with h | h | h
        · rw [decide_eq_true h, decide_eq_true (show g s < k + 1 by omega)]; rfl
        · rw [decide_eq_true h, decide_eq_true (show g s < k + 1 by omega), Bool.true_and, Bool.true_and, Bool.or_true]
        · rw [decide_eq_false (show ¬ g s < k + 1 by omega), decide_eq_false (show ¬ g s < k by omega), decide_eq_false (show ¬ g s = k by omega)]; rfl
    · cases Q s
      · rfl
      · by_cases h : g s = k
        · rw [decide_eq_false (show ¬ g s < k by omega)]; rfl
        · rw [decide_eq_false h]; simp
theorem sbs_at {W s : Nat → Bool} {i : Nat} (h : sbs W s = true) (hi : i < 14) (hs : s i = true) : W i = true := by
  unfold sbs at h
  have := al_iff.mp h i (by omega) (by omega)
  rw [hs] at this
  exact this
theorem sz1_U {U s : Nat → Bool} (h : sbs U s = true) : sz1 s = sz U s := by
  unfold sz1 sz
  refine cn_congr (fun i hi => ?_)
  cases e : s i
  · rw [Bool.and_false]
  · rw [sbs_at h hi e]; rfl
theorem sz1_UV {U V s : Nat → Bool} (hd : ∀ i, (U i && V i) = false) (h : sbs (fun i => U i || V i) s = true) : sz1 s = sz U s + sz V s := by
  unfold sz1 sz
  rw [cn_split (p := s) (q := U)]
  congr 1
  · exact cn_congr (fun i _ => Bool.and_comm _ _)
  · refine cn_congr (fun i hi => ?_)
    cases e : s i
    · rw [Bool.and_false]; rfl
    · have h1 := sbs_at h hi e
      have h2 := hd i
      cases e1 : U i <;> cases e2 : V i <;> rw [e1, e2] at h1 h2 <;> simp_all
def cvl (w : Nat → Nat) (v m f : Nat) : Nat := sm (fun j => w (f - j) * chs v j) (min f m + 1)
theorem ct_conv {U V : Nat → Bool} {R : (Nat → Bool) → Bool} (hd : ∀ i, (U i && V i) = false) (hR : ∀ i s, V i = true → R (ins i s) = R s) (f l : Nat) :
    ct 14 (fun s => sbs (fun i => U i || V i) s && R s && decide (sz V s ≤ l) && decide (sz1 s = f)) = cvl (fun g => ct 14 (fun s => sbs U s && R s && decide (sz1 s = g))) (cn V 14) l f := by
  have e1 : ct 14 (fun s => sbs (fun i => U i || V i) s && R s && decide (sz V s ≤ l) && decide (sz1 s = f)) = ct 14 (fun s => (sbs (fun i => U i || V i) s && R s && decide (sz1 s = f)) && decide (sz V s < min f l + 1)) := by
    refine ct_congr 14 (fun s _ => ?_)
    cases h : sbs (fun i => U i || V i) s
    · rfl
    · have h1 := sz1_UV hd h
      cases R s
      · rfl
      · by_cases h2 : sz1 s = f
        · rw [decide_eq_true h2]
          by_cases h3 : sz V s ≤ l
          · rw [decide_eq_true h3, decide_eq_true (show sz V s < min f l + 1 by omega)]
          · rw [decide_eq_false h3, decide_eq_false (show ¬ sz V s < min f l + 1 by omega)]; rfl
        · rw [decide_eq_false h2, Bool.and_false, Bool.and_false, Bool.false_and]
  rw [e1, ct_part (Q := fun s => sbs (fun i => U i || V i) s && R s && decide (sz1 s = f)) (g := sz V)]
  unfold cvl
  refine sm_congr (fun j hj => ?_)
  have e2 : ct 14 (fun s => (sbs (fun i => U i || V i) s && R s && decide (sz1 s = f)) && decide (sz V s = j)) = ct 14 (fun s => sbs (fun i => U i || V i) s && R s && decide (sz U s = f - j) && decide (sz V s = j)) := by
    refine ct_congr 14 (fun s _ => ?_)
    cases h : sbs (fun i => U i || V i) s
    · rfl
    · have h1 := sz1_UV hd h
      cases R s
      · rfl
      · by_cases h3 : sz V s = j
        · by_cases h2 : sz1 s = f
          · rw [decide_eq_true h2, decide_eq_true (show sz U s = f - j by omega)]
          · rw [decide_eq_false h2, decide_eq_false (show ¬ sz U s = f - j by omega)]
        · rw [decide_eq_false h3, Bool.and_false, Bool.and_false]
  rw [e2, ct_prod hd 14 (Nat.le_refl _) R hR]
  congr 1
  refine ct_congr 14 (fun s _ => ?_)
  cases h : sbs U s
  · rfl
  · rw [sz1_U h]
