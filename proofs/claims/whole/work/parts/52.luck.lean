/-! ===== luck ===== -/
theorem chs_m : ∀ n, n < 15 → ∀ k, k < 15 → chs n k ≤ 3432 := by decide +kernel
theorem c_gcd : ∀ (k a b i f : Nat), k ≤ 20 → b < 2 ^ k → i + 2 * k < 200 → 2 * k + 1 < f → a < 2 ^ 31 → F_Count_commonDivisor_6 f (lN a) (lN b) (nI i) = some (lN (Nat.gcd a b))
  | 0, a, b, i, f, hk20, hb, hi, hf, ha => by
    obtain ⟨f, rfl⟩ : ∃ g, f = g + 1 := ⟨f - 1, by omega⟩
    have hb0 : b = 0 := by omega
    subst hb0
    show F_Count_commonDivisor_6B (F_Count_commonDivisor_6 f) (lN a) (lN 0) (nI i) = _
    unfold F_Count_commonDivisor_6B
    rw [if_neg (show ¬ (200 : Int32) ≤ nI i from nI_ge (b := 200) (by omega) (by omega)), if_pos (by decide), Nat.gcd_zero_right]
  | k + 1, a, b, i, f, hk20, hb, hi, hf, ha => by
    obtain ⟨f, rfl⟩ : ∃ g, f = g + 1 := ⟨f - 1, by omega⟩
    have hk : 2 ^ (k + 1) ≤ 2 ^ 31 := Nat.pow_le_pow_right (by omega) (by omega)
    have cmp : ∀ z, 0 < z → z < 2 ^ 31 → ¬ lg_cmp (lN z) 0 = 0 := fun z h1 h2 q => lN_ne0 h1 (by omega) ((lg_cmp_eq _ _).mp q)
    show F_Count_commonDivisor_6B (F_Count_commonDivisor_6 f) (lN a) (lN b) (nI i) = _
    unfold F_Count_commonDivisor_6B
    rw [if_neg (show ¬ (200 : Int32) ≤ nI i from nI_ge (b := 200) (by omega) (by omega))]
    by_cases hb0 : b = 0
    · subst hb0
      rw [if_pos (by decide), Nat.gcd_zero_right]
    · rw [if_neg (cmp b (by omega) (by omega)), sn_gu (lN_ne0 (by omega) (by omega)), y_lt, show sd_modJ (lN a) (lN b) = lN (a % b) from pk_lRem (by omega) (by omega) (by omega), nI_1]
      have hm : a % b < b := Nat.mod_lt _ (by omega)
      obtain ⟨f, rfl⟩ : ∃ g, f = g + 1 := ⟨f - 1, by omega⟩
      by_cases hr : a % b = 0
      · show F_Count_commonDivisor_6B (F_Count_commonDivisor_6 f) (lN b) (lN (a % b)) (nI (i + 1)) = _
        unfold F_Count_commonDivisor_6B
        rw [if_neg (show ¬ (200 : Int32) ≤ nI (i + 1) from nI_ge (b := 200) (by omega) (by omega)), hr, if_pos (by decide), Nat.gcd_comm a b, Nat.gcd_rec b a, hr, Nat.gcd_zero_left]
      · show F_Count_commonDivisor_6B (F_Count_commonDivisor_6 f) (lN b) (lN (a % b)) (nI (i + 1)) = _
        unfold F_Count_commonDivisor_6B
        rw [if_neg (show ¬ (200 : Int32) ≤ nI (i + 1) from nI_ge (b := 200) (by omega) (by omega)), if_neg (cmp (a % b) (by omega) (by omega)), sn_gu (lN_ne0 (by omega) (by omega)), y_lt, show sd_modJ (lN b) (lN (a % b)) = lN (b % (a % b)) from pk_lRem (by omega) (by omega) (by omega), nI_1]
        have h3 : b % (a % b) < a % b := Nat.mod_lt _ (by omega)
        have h4 : b % (a % b) + a % b ≤ b := by
          have h5 := Nat.div_add_mod b (a % b)
          have h6 : 1 ≤ b / (a % b) := (Nat.one_le_div_iff (by omega)).mpr (by omega)
          have h7 : a % b * 1 ≤ a % b * (b / (a % b)) := Nat.mul_le_mul_left _ h6
          omega
        rw [c_gcd k (a % b) (b % (a % b)) (i + 1 + 1) f (by omega) (by rw [Nat.pow_succ] at hb; omega) (by omega) (by omega) (by omega)]
        rw [Nat.gcd_comm a b, Nat.gcd_rec b a, Nat.gcd_rec (a % b) b, Nat.gcd_comm]
theorem m_gcd {g a w : Nat} : ∀ (d c f : Nat), d < f → d < 2 ^ 20 → c < 2 ^ 20 → 0 < c → g < 2 ^ 20 → a < 2 ^ 20 → F_Mo_portion_8 f (nI g) (nI a) (nI w) (nI c) (nI d) = some (if nI w = 0 then nI (g / Nat.gcd c d) else nI (a / Nat.gcd c d)) := by
  intro d
  induction d using Nat.strongRecOn with
  | ind d ih =>
    intro c f hf hd hc h0 hg ha
    obtain ⟨f, rfl⟩ : ∃ g, f = g + 1 := ⟨f - 1, by omega⟩
    show F_Mo_portion_8B (F_Mo_portion_8 f) (nI g) (nI a) (nI w) (nI c) (nI d) = _
    unfold F_Mo_portion_8B
    by_cases hd0 : d = 0
    · subst hd0
      rw [if_pos (show nI 0 = 0 from rfl), Nat.gcd_zero_right, sn_gu (nI_ne0 h0 (by omega)), sn_gu (nI_ne0 h0 (by omega)), pk_div (by omega) h0 (by omega), pk_div (by omega) h0 (by omega)]
      by_cases hw : nI w = 0
      · rw [if_neg (sn_nn hw), if_pos hw]
      · rw [if_pos hw, if_neg hw]
    · have hm : c % d < d := Nat.mod_lt _ (by omega)
      rw [if_neg (nI_ne0 (by omega) (by omega)), sn_gu (nI_ne0 (by omega) (by omega)), y_lt, sn_mod (by omega) (by omega) (by omega), ih (c % d) hm d f (by omega) (by omega) (by omega) (by omega) hg ha, Nat.gcd_comm c d, Nat.gcd_rec d c, Nat.gcd_comm]
theorem sz_n {p s : Nat → Bool} {i : Nat} (h : p i = false) : sz p (ins i s) = sz p s := by
  unfold sz
  refine cn_congr (fun j hj => ?_)
  unfold ins
  by_cases e : j = i
  · subst e; rw [h]; rfl
  · rw [decide_eq_false e, Bool.or_false]
/-- who can sing one of the first rows -/
def uk (A : sA) (x : Int32) (p : Nat) : Nat → Nat → Bool
  | 0, _ => false
  | k + 1, i => uk A x p k i || bt (ab A x (4 * p + k) 0) i
def lim (A : sA) (x : Int32) (p k : Nat) : Nat := pc (ab A x (4 * p + k) 0) - A 6 (4 * p + k)
def okk (A : sA) (x : Int32) (p : Nat) : Nat → (Nat → Bool) → Bool
  | 0, _ => true
  | k + 1, s => okk A x p k s && decide (sz (bt (ab A x (4 * p + k) 0)) s ≤ lim A x p k)
def wk (A : sA) (x : Int32) (p k f : Nat) : Nat := ct 14 (fun s => sbs (uk A x p k) s && okk A x p k s && decide (sz1 s = f))
def otk (A : sA) (x : Int32) (p k : Nat) : Nat := cn (fun i => bt x i && !uk A x p k i) 14
section LK
variable {A : sA} {x : Int32} {p : Nat}
theorem ab_bt {r i : Nat} (h : bt (ab A x r 0) i = true) : i < 14 ∧ bt x i = true ∧ A 2 i = r % 4 := by
  by_cases hi : i < 14
  · refine ⟨hi, ?_, (ab_p hi h).2⟩
    rw [bt_ab hi, Bool.and_eq_true] at h
    exact h.1
  · rw [lo14_ab i (by omega)] at h; cases h
theorem uk_p : ∀ {k i : Nat}, k ≤ 4 → uk A x p k i = true → A 2 i < k ∧ bt x i = true
  | 0, i, _, h => by cases h
  | k + 1, i, hk, h => by
    rw [uk, Bool.or_eq_true] at h
    rcases h with h | h
    · have := uk_p (k := k) (by omega) h
      exact ⟨by omega, this.2⟩
    · obtain ⟨-, h2, h3⟩ := ab_bt h
      exact ⟨by omega, h2⟩
theorem uk_d {k i : Nat} (hk : k < 4) : (uk A x p k i && bt (ab A x (4 * p + k) 0) i) = false := by
  cases e : uk A x p k i
  · rfl
  · cases e2 : bt (ab A x (4 * p + k) 0) i
    · rfl
    · have h1 := (uk_p (by omega) e).1
      have h2 := (ab_bt e2).2.2
      omega
theorem okk_i {i : Nat} {s : Nat → Bool} : ∀ {k : Nat}, (∀ q, q < k → bt (ab A x (4 * p + q) 0) i = false) → okk A x p k (ins i s) = okk A x p k s
  | 0, _ => rfl
  | k + 1, h => by rw [okk, okk, okk_i (k := k) (fun q hq => h q (by omega)), sz_n (h k (by omega))]
theorem wk_0 {f : Nat} : wk A x p 0 f = if f = 0 then 1 else 0 := by
  unfold wk
  rw [ct_to (n := 0) (by omega) (fun i s h1 h2 => by rw [sbs_ins (by omega)]; simp [uk]), ct, sbs_0]
  have e : sz1 (fun _ => false) = 0 := cn_false (fun _ _ => rfl)
  rw [e]
  by_cases h : f = 0
  · subst h; rfl
  · rw [decide_eq_false (fun z => h z.symm), if_neg h]; rfl
theorem wk_s {k : Nat} (hk : k < 4) {f : Nat} : wk A x p (k + 1) f = cvl (wk A x p k) (pc (ab A x (4 * p + k) 0)) (lim A x p k) f := by
  have h := ct_conv (U := uk A x p k) (V := bt (ab A x (4 * p + k) 0)) (R := okk A x p k) (fun i => uk_d hk) (fun i s hi => okk_i (fun q hq => by
    cases e : bt (ab A x (4 * p + q) 0) i
    · rfl
    · have h1 := (ab_bt e).2.2
      have h2 := (ab_bt hi).2.2
      omega)) f (lim A x p k)
  show ct 14 (fun s => sbs (fun i => uk A x p k i || bt (ab A x (4 * p + k) 0) i) s && (okk A x p k s && decide (sz (bt (ab A x (4 * p + k) 0)) s ≤ lim A x p k)) && decide (sz1 s = f)) = _
  simp only [← Bool.and_assoc]
  exact h
theorem wk_b {k f : Nat} : wk A x p k f < 2 ^ 20 := by
  have := ct_le 14 (fun s => sbs (uk A x p k) s && okk A x p k s && decide (sz1 s = f))
  show ct 14 _ < _
  omega
theorem otk_0 (hx : lo14 x) : otk A x p 0 = pc x := by
  unfold otk pc
  refine cn_congr (fun i _ => ?_)
  show (bt x i && !false) = bt x i
  simp
theorem otk_s {k : Nat} (hk : k < 4) : otk A x p (k + 1) + pc (ab A x (4 * p + k) 0) = otk A x p k := by
  unfold otk
  rw [cn_split (p := fun i => bt x i && !uk A x p k i) (q := bt (ab A x (4 * p + k) 0))]
  have e1 : cn (fun i => (bt x i && !uk A x p k i) && bt (ab A x (4 * p + k) 0) i) 14 = pc (ab A x (4 * p + k) 0) := cn_congr (fun i hi => by
    cases e : bt (ab A x (4 * p + k) 0) i
    · rw [Bool.and_false]
    · have h1 := (ab_bt e).2.1
      have h2 := uk_d (A := A) (x := x) (p := p) (i := i) hk
      rw [e, Bool.and_true] at h2
      rw [h1, h2]
      rfl)
  have e2 : cn (fun i => (bt x i && !uk A x p k i) && !bt (ab A x (4 * p + k) 0) i) 14 = cn (fun i => bt x i && !uk A x p (k + 1) i) 14 := cn_congr (fun i hi => by
    rw [uk]
    cases bt x i <;> cases uk A x p k i <;> cases bt (ab A x (4 * p + k) 0) i <;> rfl)
  rw [e1, e2]
  omega
/-- in how many ways it is outlived -/
def w5 (A : sA) (x : Int32) (p f : Nat) : Nat := ct 14 (fun s => sbs (bt x) s && okk A x p 4 s && decide (sz1 s = f))
theorem w5_eq {f : Nat} : cvl (wk A x p 4) (otk A x p 4) (otk A x p 4) f = w5 A x p f := by
  have h := ct_conv (U := uk A x p 4) (V := fun i => bt x i && !uk A x p 4 i) (R := okk A x p 4) (fun i => by cases uk A x p 4 i <;> simp) (fun i s hi => okk_i (fun q hq => by
    cases e : bt (ab A x (4 * p + q) 0) i
    · rfl
    · exfalso
      have h1 : ∀ k, q < k → k ≤ 4 → uk A x p k i = true := by
        intro k
        induction k with
        | zero => intro h; omega
        | succ k ih =>
          intro h1 h2
          rw [uk, Bool.or_eq_true]
          by_cases e2 : q = k
          · subst e2; exact Or.inr e
          · exact Or.inl (ih (by omega) (by omega))
      rw [h1 4 hq (Nat.le_refl _)] at hi
      simp at hi)) f (otk A x p 4)
  have e0 : cn (fun i => bt x i && !uk A x p 4 i) 14 = otk A x p 4 := rfl
  rw [e0] at h
  show cvl (fun g => ct 14 (fun s => sbs (uk A x p 4) s && okk A x p 4 s && decide (sz1 s = g))) (otk A x p 4) (otk A x p 4) f = _
  rw [← h]
  unfold w5
  refine ct_congr 14 (fun s _ => ?_)
  have e1 : sbs (fun i => uk A x p 4 i || (bt x i && !uk A x p 4 i)) s = sbs (bt x) s := by
    unfold sbs
    refine al_congr (fun i _ _ => ?_)
    show (!s i || (uk A x p 4 i || (bt x i && !uk A x p 4 i))) = (!s i || bt x i)
    cases e : uk A x p 4 i
    · simp
    · rw [(uk_p (Nat.le_refl _) e).2]; rfl
  have e2 : sz (fun i => bt x i && !uk A x p 4 i) s ≤ otk A x p 4 := by
    unfold sz otk
    exact cn_mono (fun i _ h => by rw [Bool.and_eq_true] at h; exact h.1)
  rw [e1, decide_eq_true e2, Bool.and_true]
theorem cvl_b {w : Nat → Nat} {v m f : Nat} : cvl w v m f = sm (fun j => w (f - j) * chs v j) (min f m + 1) := rfl
end LK
section QU
variable {A : sA} {R : Nat → List Nat} {t : Nat} {C M : sm_MI}
theorem c_mult {v m : Nat} (hv : v < 15) (hm : m < 15) {w : Nat → Nat} (hw : ∀ j, w j < 2 ^ 20) : ∀ (g f : Nat) (I : sm_MI), g ≤ 15 → g < f → (∀ j, j < g → I 2 j = nI (w j)) → (∀ j, g ≤ j → j < 15 → I 2 j = nI (cvl w v m j)) →
    ∃ I', F_Choir_multiply_5 f (nI v) (nI m) (nI g + -1) I = some I' ∧ (∀ j, j < 15 → I' 2 j = nI (cvl w v m j)) ∧ ∀ k, k ≠ 2 → I' k = I k
  | 0, f, I, _, hf, h1, h2 => by
    obtain ⟨f, rfl⟩ : ∃ g, f = g + 1 := ⟨f - 1, by omega⟩
    refine ⟨I, ?_, fun j hj => h2 j (by omega) hj, fun _ _ => rfl⟩
    show F_Choir_multiply_5B (F_Choir_multiply_5 f) (nI v) (nI m) (nI 0 + -1) I = _
    unfold F_Choir_multiply_5B
    rw [if_pos (show nI 0 + -1 < 0 by decide)]
  | g + 1, f, I, hg, hf, h1, h2 => by
    obtain ⟨f, rfl⟩ : ∃ g, f = g + 1 := ⟨f - 1, by omega⟩
    have lq := lp_in (fun o j z => F_Choir_multiply_11 (F_Choir_multiply_5 f) o (nI v) (nI m) (nI g) (lN z) j I) (fun z => F_Choir_multiply_5 f (nI v) (nI m) (nI g + -1) (sd_up I 2 g (nI z))) (fun j z => z + w (g - j) * chs v j) (fun _ _ => True) (min g m + 1) 0 trivial (by omega) ?_ ?_
    · have lq := lq.1
      rw [itr_sm] at lq
      have lq : F_Choir_multiply_11 (F_Choir_multiply_5 f) sd_fu (nI v) (nI m) (nI g) 0 0 I = F_Choir_multiply_5 f (nI v) (nI m) (nI g + -1) (sd_up I 2 g (nI (cvl w v m g))) := lq
      obtain ⟨I', e1, e2, e3⟩ := c_mult hv hm hw g f (sd_up I 2 g (nI (cvl w v m g))) (by omega) (by omega) (fun j hj => by rw [up_m (by omega)]; exact h1 j (by omega)) (fun j hj1 hj2 => by
        by_cases e : j = g
        · subst e; exact up_s
        · rw [up_m e]; exact h2 j (by omega) hj2)
      refine ⟨I', ?_, e2, fun k hk => by rw [e3 k hk, up_n hk]⟩
      have hu : ∀ a, F_Choir_multiply_5 (f + 1) (nI v) (nI m) a I = F_Choir_multiply_5B (F_Choir_multiply_5 f) (nI v) (nI m) a I := fun a => rfl
      rw [hu]
      unfold F_Choir_multiply_5B
      rw [sn_m1 (by omega), Nat.add_sub_cancel, if_neg (nI_pos (by omega)), lq, e1]
    · intro o z _
      show F_Choir_multiply_11B (F_Choir_multiply_5 f) (F_Choir_multiply_11 (F_Choir_multiply_5 f) o) (nI v) (nI m) (nI g) (lN z) (nI (min g m + 1)) I = _
      unfold F_Choir_multiply_11B F_Choir_multiply_32
      rw [sn_gu (sn_in' (show g < 15 by omega) (by omega)), y_lt, nI_clamp (by omega), lN_i]
      by_cases e : g ≤ m
      · rw [if_pos (nI_lt (by omega) (by omega))]
      · rw [if_neg (nI_nlt (by omega) (by omega)), if_pos (nI_lt (by omega) (by omega))]
    · intro o j z hj _
      refine ⟨trivial, ?_⟩
      show F_Choir_multiply_11B (F_Choir_multiply_5 f) (F_Choir_multiply_11 (F_Choir_multiply_5 f) o) (nI v) (nI m) (nI g) (lN z) (nI j) I = F_Choir_multiply_11 (F_Choir_multiply_5 f) o (nI v) (nI m) (nI g) (lN (z + w (g - j) * chs v j)) (nI (j + 1)) I
      have hwj := hw (g - j)
      unfold F_Choir_multiply_11B
      rw [if_neg (nI_nlt (by omega) (by omega)), if_neg (nI_nlt (by omega) (by omega)), sn_sub (by omega), sn_gu (sn_in' (by omega) (by omega)), nI_clamp (by omega), c_choose v hv j (by omega), sn_q1, y_lt, h1 (g - j) (by omega), nI_l (by omega), lN_mul, lN_add, nI_1]
theorem c_multiply {v m : Nat} (hv : v < 15) (hm : m < 15) {w : Nat → Nat} (hw : ∀ j, w j < 2 ^ 20) {I : sm_MI} (h1 : ∀ j, j < 15 → I 2 j = nI (w j)) : ∃ I', F_Choir_multiply (nI v) (nI m) I = some I' ∧ (∀ j, j < 15 → I' 2 j = nI (cvl w v m j)) ∧ ∀ k, k ≠ 2 → I' k = I k := by
  obtain ⟨I', e1, e2⟩ := c_mult hv hm hw 15 sd_fu I (Nat.le_refl _) (by rw [sd_fu_val]; omega) h1 (fun j h2 h3 => absurd h2 (by omega))
  refine ⟨I', ?_, e2⟩
  unfold F_Choir_multiply
  rw [y_lt]
  exact e1
theorem c_outlived (hw : wA A) (hc : cA A t C) {x : Int32} {p f : Nat} (hx : lo14 x) (hp : p < 5) (hf : f < 15) (ht : t = 21 ∨ t = 41) : ∃ C', F_Choir_setsOutlived t x (nI p) (nI f) C = some (lN (if cs A x p 0 then w5 A x p f else 0), C') ∧ ∀ k, k ≠ 2 → C' k = C k := by
  have ec := c_canBeSung (p := p) (x := x) hw hc hp
  unfold F_Choir_setsOutlived
  rw [ec, sn_q1]
  cases hcs : cs A x p 0
  · exact ⟨C, rfl, fun _ _ => rfl⟩
  · rw [if_pos rfl, if_neg n10, if_neg (nI_pos (by omega)), if_pos (show nI f < (15 : Int32) from nI_lt (b := 15) hf (by omega))]
    have row : ∀ (m k g : Nat) (I : sm_MI), k + m = 4 → m < g → (∀ j, j < 15 → I 2 j = nI (wk A x p k j)) → (∀ q, q ≠ 2 → I q = C q) → ∃ C', F_Choir_setsOutlived_34 t g x (nI p) (nI f) (nI (otk A x p k)) (nI k) I = some (lN (w5 A x p f), C') ∧ ∀ q, q ≠ 2 → C' q = C q := by
      intro m
      induction m with
      | zero =>
        intro k g I hk hg h1 h2
        obtain ⟨g, rfl⟩ : ∃ z, g = z + 1 := ⟨g - 1, by omega⟩
        have hk4 : k = 4 := by omega
        subst hk4
        have ho := cn_le (fun i => bt x i && !uk A x p 4 i) 14
        have ho : otk A x p 4 ≤ 14 := ho
        obtain ⟨I', e1, e2, e3⟩ := c_multiply (v := otk A x p 4) (m := otk A x p 4) (by omega) (by omega) (fun j => wk_b) h1
        refine ⟨I', ?_, fun q hq => by rw [e3 q hq, h2 q hq]⟩
        show F_Choir_setsOutlived_34B t (F_Choir_setsOutlived_34 t g) x (nI p) (nI f) (nI (otk A x p 4)) (nI 4) I = _
        unfold F_Choir_setsOutlived_34B
        have hb : w5 A x p f < 2 ^ 31 := by
          have := ct_le 14 (fun s => sbs (bt x) s && okk A x p 4 s && decide (sz1 s = f))
          show ct 14 _ < _
          omega
        rw [if_pos (show (4 : Int32) ≤ nI 4 from Int32.le_refl _), e1, sn_q1, sn_gu (sn_in' hf (by omega)), nI_clamp (by omega), e2 f hf, w5_eq, nI_l hb]
      | succ m ih =>
        intro k g I hk hg h1 h2
        obtain ⟨g, rfl⟩ : ∃ z, g = z + 1 := ⟨g - 1, by omega⟩
        have hk4 : k < 4 := by omega
        have hr : 4 * p + k < 20 := by omega
        have hcI : cA A t I := cA_same hc (fun q hq => h2 _ (by omega))
        have q1 := (hcI.2.2.2.2.1 (4 * p + k) hr).1
        have w4 := (hw.2.2.2.2.2 (4 * p + k) hr).1
        have hpc := pc_le (ab A x (4 * p + k) 0)
        have hnd := cs_need hcs hk4
        have ho := otk_s (A := A) (x := x) (p := p) hk4
        have hl : pc (ab A x (4 * p + k) 0) - A 6 (4 * p + k) = lim A x p k := rfl
        obtain ⟨I', e1, e2, e3⟩ := c_multiply (v := pc (ab A x (4 * p + k) 0)) (m := lim A x p k) (by omega) (by omega) (fun j => wk_b) h1
        obtain ⟨C', e4, e5⟩ := ih (k + 1) g I' (by omega) (by omega) (fun j hj => by rw [e2 j hj, wk_s hk4]) (fun q hq => by rw [e3 q hq, h2 q hq])
        refine ⟨C', ?_, e5⟩
        show F_Choir_setsOutlived_34B t (F_Choir_setsOutlived_34 t g) x (nI p) (nI f) (nI (otk A x p k)) (nI k) I = _
        unfold F_Choir_setsOutlived_34B
        rw [if_neg (show ¬ (4 : Int32) ≤ nI k from nI_ge (b := 4) hk4 (by omega)), y_lt, show nI p * 4 + nI k = nI (4 * p + k) from by rw [show (4 : Int32) = nI 4 from rfl, sn_mul, nI_add, Nat.mul_comm], sn_gu (sn_in' hr (by omega)), nI_clamp (by omega), ab_fit hcI hr, int_bc lo14_ab, sn_q1, y_lt, sn_gu (sn_in' hr (by omega)), q1, sn_sub hnd, hl, e1, sn_q1, sn_sub (by omega), show otk A x p k - pc (ab A x (4 * p + k) 0) = otk A x p (k + 1) by omega, nI_1]
        exact e4
    have zer : ∀ (m j g : Nat) (I : sm_MI), j + m = 15 → m < g → (∀ i, i < j → I 2 i = 0) → (∀ q, q ≠ 2 → I q = C q) → ∃ C', F_Choir_setsOutlived_15 t g x (nI p) (nI f) (nI j) I = some (lN (w5 A x p f), C') ∧ ∀ q, q ≠ 2 → C' q = C q := by
      intro m
      induction m with
      | zero =>
        intro j g I hj hg h1 h2
        obtain ⟨g, rfl⟩ : ∃ z, g = z + 1 := ⟨g - 1, by omega⟩
        have hj15 : j = 15 := by omega
        subst hj15
        obtain ⟨C', e1, e2⟩ := row 4 0 sd_fu (sd_up I 2 0 1) rfl (by rw [sd_fu_val]; omega) (fun i hi => by
          rw [wk_0]
          by_cases e : i = 0
          · subst e; exact up_s
          · rw [up_m e, h1 i hi, if_neg e]; rfl) (fun q hq => by rw [up_n hq, h2 q hq])
        refine ⟨C', ?_, e2⟩
        show F_Choir_setsOutlived_15B t (F_Choir_setsOutlived_15 t g) x (nI p) (nI f) (nI 15) I = _
        unfold F_Choir_setsOutlived_15B
        rw [if_pos (show (15 : Int32) ≤ nI 15 from Int32.le_refl _), sn_gu (by decide), y_lt, int_bc hx, sn_q1]
        rw [otk_0 hx] at e1
        exact e1
      | succ m ih =>
        intro j g I hj hg h1 h2
        obtain ⟨g, rfl⟩ : ∃ z, g = z + 1 := ⟨g - 1, by omega⟩
        obtain ⟨C', e1, e2⟩ := ih (j + 1) g (sd_up I 2 j 0) (by omega) (by omega) (fun i hi => by
          by_cases e : i = j
          · subst e; exact up_s
          · rw [up_m e]; exact h1 i (by omega)) (fun q hq => by rw [up_n hq, h2 q hq])
        refine ⟨C', ?_, e2⟩
        show F_Choir_setsOutlived_15B t (F_Choir_setsOutlived_15 t g) x (nI p) (nI f) (nI j) I = _
        unfold F_Choir_setsOutlived_15B
        rw [if_neg (show ¬ (15 : Int32) ≤ nI j from nI_ge (b := 15) (by omega) (by omega)), sn_gu (sn_in' (by omega) (by omega)), y_lt, nI_clamp (by omega), nI_1]
        exact e1
    exact zer 15 0 sd_fu C rfl (by rw [sd_fu_val]; omega) (fun i hi => absurd hi (by omega)) (fun _ _ => rfl)
theorem sbs_iff {x : Int32} {z : Nat} (hz : z < 2 ^ 14) : nI z &&& (x ^^^ -1) = 0 ↔ sbs (bt x) (fun i => z.testBit i) = true := by
  rw [an0_iff (lo14_x hz)]
  unfold sbs
  rw [al_iff]
  constructor
  · intro h i _ h2
    show (!z.testBit i || bt x i) = true
    cases e : z.testBit i
    · rfl
    · rw [← bt_nI (show i < 32 by omega)] at e
      rw [h i (by omega) e]; rfl
  · intro h i hi hb
    rw [bt_nI (by omega)] at hb
    have := h i (by omega) (by omega)
    have this : (!z.testBit i || bt x i) = true := this
    rw [hb] at this
    exact this
theorem sz1_bt {z : Nat} : pc (nI z) = sz1 (fun i => z.testBit i) := cn_congr (fun i hi => bt_nI (by omega))
theorem ab_less {x z : Int32} {r : Nat} : pc (ab A (x &&& (z ^^^ -1)) r 0) + sz (bt (ab A x r 0)) (bt z) = pc (ab A x r 0) := by
  unfold sz pc
  rw [cn_split (p := bt (ab A x r 0)) (q := bt z), Nat.add_comm]
  congr 1
  refine cn_congr (fun i hi => ?_)
  rw [bt_ab hi, bt_ab hi, b_and, bt_not (by omega)]
  cases bt x i <;> cases bt z i <;> cases fu A r 0 i <;> rfl
theorem okk_iff {x : Int32} {p : Nat} {s : Nat → Bool} : ∀ {k : Nat}, okk A x p k s = true ↔ ∀ q, q < k → sz (bt (ab A x (4 * p + q) 0)) s ≤ lim A x p q
  | 0 => ⟨fun _ q hq => absurd hq (by omega), fun _ => rfl⟩
  | k + 1 => by
    rw [okk, Bool.and_eq_true, okk_iff (k := k), decide_eq_true_eq]
    constructor
    · intro h q hq
      by_cases e : q = k
      · rw [e]; exact h.2
      · exact h.1 q (by omega)
    · intro h
      exact ⟨fun q hq => h q (by omega), h k (by omega)⟩
theorem cs_less {x : Int32} {p z : Nat} (hcs : cs A x p 0 = true) : cs A (x &&& (nI z ^^^ -1)) p 0 = okk A x p 4 (fun i => z.testBit i) := by
  have hnr : nr A p = false := by
    unfold cs at hcs
    rw [Bool.and_eq_true] at hcs
    cases e : nr A p
    · rfl
    · rw [e] at hcs; exact absurd hcs.1 (by decide)
  have hsz : ∀ r, sz (bt (ab A x r 0)) (fun i => z.testBit i) = sz (bt (ab A x r 0)) (bt (nI z)) := fun r => cn_congr (fun i hi => by rw [bt_nI (by omega)])
  rw [Bool.eq_iff_iff, okk_iff]
  unfold cs
  rw [hnr, Bool.not_false, Bool.true_and, al_iff]
  constructor
  · intro h q hq
    have h1 := h (4 * p + q) (by omega) (by omega)
    rw [decide_eq_true_eq] at h1
    have h2 := ab_less (A := A) (x := x) (z := nI z) (r := 4 * p + q)
    rw [hsz]
    unfold lim
    omega
  · intro h r h3 h4
    have h1 := h (r - 4 * p) (by omega)
    unfold lim at h1
    rw [hsz, show 4 * p + (r - 4 * p) = r by omega] at h1
    have h2 := ab_less (A := A) (x := x) (z := nI z) (r := r)
    have h5 := cs_need hcs (show r - 4 * p < 4 by omega)
    rw [show 4 * p + (r - 4 * p) = r by omega] at h5
    rw [decide_eq_true_eq]
    omega
theorem ct_all {x : Int32} {f : Nat} : ct 14 (fun s => sbs (bt x) s && decide (sz1 s = f)) = chs (pc x) f := by
  have h := ct_prod (U := fun _ => false) (V := bt x) (fun _ => rfl) 14 (Nat.le_refl _) (fun _ => true) (fun _ _ _ => rfl) 0 f
  have e1 : ct 14 (fun s => sbs (fun _ => false) s && true && decide (sz (fun _ => false) s = 0)) = 1 := by
    rw [ct_to (n := 0) (by omega) (fun i s h1 h2 => by rw [sbs_ins (by omega)]; simp), ct, sbs_0, sz_0]
    rfl
  rw [e1, Nat.one_mul] at h
  show _ = chs (cn (bt x) 14) f
  rw [← h]
  refine ct_congr 14 (fun s _ => ?_)
  have e2 : sz (fun _ => false) s = 0 := cn_false (fun i _ => rfl)
  have e3 : sbs (fun i => false || bt x i) s = sbs (bt x) s := rfl
  rw [e2, e3]
  cases e4 : sbs (bt x) s
  · rfl
  · rw [sz1_U e4]; rfl
def lk1 (x : Int32) (f z : Nat) : Bool := sbs (bt x) (fun i => z.testBit i) && decide (sz1 (fun i => z.testBit i) = f)
def lk2 (A : sA) (x : Int32) (p f z : Nat) : Bool := lk1 x f z && cs A (x &&& (nI z ^^^ -1)) p 0
theorem lk1_c {n : Nat} {x : Int32} {f : Nat} (hn : n ≤ 14) (hx : ∀ i, n ≤ i → bt x i = false) : cn (lk1 x f) (2 ^ n) = chs (pc x) f := by
  rw [← ct_all]
  have h := ct_cn n (fun s => sbs (bt x) s && decide (sz1 s = f))
  rw [ct_to (n := n) hn (fun i s h1 h2 => by rw [sbs_ins (by omega), hx i h1, Bool.and_false, Bool.false_and]), ← h]
  rfl
theorem lk2_c {n : Nat} {x : Int32} {p f : Nat} (hn : n ≤ 14) (hx : ∀ i, n ≤ i → bt x i = false) : cn (lk2 A x p f) (2 ^ n) = if cs A x p 0 then w5 A x p f else 0 := by
  cases hcs : cs A x p 0
  · rw [if_neg (by decide)]
    refine cn_false (fun z _ => ?_)
    unfold lk2
    cases e : cs A (x &&& (nI z ^^^ -1)) p 0
    · rw [Bool.and_false]
    · rw [cs_mono (y := x) (fun i hi hb => by rw [b_and, Bool.and_eq_true] at hb; exact hb.1) e] at hcs
      cases hcs
  · rw [if_pos rfl]
    have h := ct_cn n (fun s => sbs (bt x) s && okk A x p 4 s && decide (sz1 s = f))
    unfold w5
    rw [ct_to (n := n) hn (fun i s h1 h2 => by rw [sbs_ins (by omega), hx i h1, Bool.and_false, Bool.false_and, Bool.false_and]), ← h]
    refine cn_congr (fun z _ => ?_)
    unfold lk2 lk1
    rw [cs_less hcs]
    cases sbs (bt x) (fun i => z.testBit i) <;> cases okk A x p 4 (fun i => z.testBit i) <;> simp
theorem q_luck (h : Rel A R t C M) (x y z : Int32) : ∃ r C', F_VM_luck t x y z C = some (r, C') ∧ csm t C C' ∧ mq (F_Mo_luck x y z M) M (cv r) := by
  obtain ⟨M1, hM1, h0, h, hs⟩ := h.start
  have hw := h.wa
  have hc := h.ca
  have hm := h.ma
  have hst := h.st
  have hn := hw.1
  have h5 := hw.2.1
  have ht := h.tt
  unfold F_VM_luck F_Mo_luck
  rw [hM1]
  rcases ix_or x (n := A 0 1) (by omega) with hx | ⟨p, hp, rfl⟩
  · refine ⟨.inr 1, C, by rw [c_chP0 hw hc hx]; rfl, csm.refl, mq_t hs (v := 0) ?_⟩
    simp (disch := omega) only [↓g_in, ↓g_c0, ↓g_c1, ↓reduceIte, ↓y_lt, ↓y_q1, ↓y_q2, ↓sn_q3, ↓sn_t1l, ↓sn_t1r, ↓sn_t2l, ↓sn_t2r, y_q1, y_q2, sn_q3, sn_t1l, sn_t1r, sn_t2l, sn_t2r, nI_clamp, x_leT, x_leF, x_ltT, x_ltF, x_eqT, x_eqF, x_le0T, x_le0F, x_0leT, x_lt0F, x_0ltT, x_0ltF, x_eq0T, x_eq0F, x_le1T, x_le1F, x_1leT, x_1leF, x_1ltT, x_1ltF, x_lt1T, x_lt1F, x_eq1T, x_eq1F, x_m1F, nI_add, nI_1, sn_mul, x_sub, x_sub1, sn_m1, l2, l3, l4, l5, l6, l7, l8, l9, l10, l11, l12, l13, l14, l15, l20, l30, l40, l48, l60, l64, l99, l100, l700, l999, not_true_eq_false, not_false_eq_true, x_t0, x_t1, lts1, x_10, x_1sub, eq_self, Nat.reduceSub, Nat.reduceAdd, Nat.reduceMul, ↓q2_of (m_isP0 hw hm h0 hx)]
  · rcases ix_or z (n := 2) (by omega) with hz | ⟨w, hk, rfl⟩
    · refine ⟨.inr 1, C, ?_, csm.refl, mq_t hs (v := 0) ?_⟩
      · rcases hz with hz | hz
        · simp (disch := omega) only [↓g_in, ↓g_c0, ↓g_c1, ↓reduceIte, ↓y_lt, ↓y_q1, ↓y_q2, ↓sn_q3, ↓sn_t1l, ↓sn_t1r, ↓sn_t2l, ↓sn_t2r, y_q1, y_q2, sn_q3, sn_t1l, sn_t1r, sn_t2l, sn_t2r, nI_clamp, x_leT, x_leF, x_ltT, x_ltF, x_eqT, x_eqF, x_le0T, x_le0F, x_0leT, x_lt0F, x_0ltT, x_0ltF, x_eq0T, x_eq0F, x_le1T, x_le1F, x_1leT, x_1leF, x_1ltT, x_1ltF, x_lt1T, x_lt1F, x_eq1T, x_eq1F, x_m1F, nI_add, nI_1, sn_mul, x_sub, x_sub1, sn_m1, l2, l3, l4, l5, l6, l7, l8, l9, l10, l11, l12, l13, l14, l15, l20, l30, l40, l48, l60, l64, l99, l100, l700, l999, not_true_eq_false, not_false_eq_true, x_t0, x_t1, lts1, x_10, x_1sub, eq_self, Nat.reduceSub, Nat.reduceAdd, Nat.reduceMul, ↓t1_of (c_chP1 hw hc hp), hz]
        · have e1 := ix_lt hz (by omega)
          have e2 : ¬ z ≤ 1 := ix_99 (n := 1) hz (by omega)
          simp (disch := omega) only [↓g_in, ↓g_c0, ↓g_c1, ↓reduceIte, ↓y_lt, ↓y_q1, ↓y_q2, ↓sn_q3, ↓sn_t1l, ↓sn_t1r, ↓sn_t2l, ↓sn_t2r, y_q1, y_q2, sn_q3, sn_t1l, sn_t1r, sn_t2l, sn_t2r, nI_clamp, x_leT, x_leF, x_ltT, x_ltF, x_eqT, x_eqF, x_le0T, x_le0F, x_0leT, x_lt0F, x_0ltT, x_0ltF, x_eq0T, x_eq0F, x_le1T, x_le1F, x_1leT, x_1leF, x_1ltT, x_1ltF, x_lt1T, x_lt1F, x_eq1T, x_eq1F, x_m1F, nI_add, nI_1, sn_mul, x_sub, x_sub1, sn_m1, l2, l3, l4, l5, l6, l7, l8, l9, l10, l11, l12, l13, l14, l15, l20, l30, l40, l48, l60, l64, l99, l100, l700, l999, not_true_eq_false, not_false_eq_true, x_t0, x_t1, lts1, x_10, x_1sub, eq_self, Nat.reduceSub, Nat.reduceAdd, Nat.reduceMul, ↓t1_of (c_chP1 hw hc hp), e1, e2]
      · simp (disch := omega) only [↓g_in, ↓g_c0, ↓g_c1, ↓reduceIte, ↓y_lt, ↓y_q1, ↓y_q2, ↓sn_q3, ↓sn_t1l, ↓sn_t1r, ↓sn_t2l, ↓sn_t2r, y_q1, y_q2, sn_q3, sn_t1l, sn_t1r, sn_t2l, sn_t2r, nI_clamp, x_leT, x_leF, x_ltT, x_ltF, x_eqT, x_eqF, x_le0T, x_le0F, x_0leT, x_lt0F, x_0ltT, x_0ltF, x_eq0T, x_eq0F, x_le1T, x_le1F, x_1leT, x_1leF, x_1ltT, x_1ltF, x_lt1T, x_lt1F, x_eq1T, x_eq1F, x_m1F, nI_add, nI_1, sn_mul, x_sub, x_sub1, sn_m1, l2, l3, l4, l5, l6, l7, l8, l9, l10, l11, l12, l13, l14, l15, l20, l30, l40, l48, l60, l64, l99, l100, l700, l999, not_true_eq_false, not_false_eq_true, x_t0, x_t1, lts1, x_10, x_1sub, eq_self, Nat.reduceSub, Nat.reduceAdd, Nat.reduceMul, ↓q2_of (m_isP1 hw hm h0 hp), ↓q2_of (m_isW0 (y := 1) (n := 1) h0 hz (by omega) rfl)]
    · have hw2 := m_isW1 (M := M1) (s := w) (y := 1) (n := 1) h0 hk (by omega) rfl
      rcases ix_or y (n := 15) (by omega) with hy | ⟨f, hf, rfl⟩
      · refine ⟨.inr 0, C, ?_, csm.refl, mq_t hs (v := 0) ?_⟩
        · rcases hy with hy | hy
          · simp (disch := omega) only [↓g_in, ↓g_c0, ↓g_c1, ↓reduceIte, ↓y_lt, ↓y_q1, ↓y_q2, ↓sn_q3, ↓sn_t1l, ↓sn_t1r, ↓sn_t2l, ↓sn_t2r, y_q1, y_q2, sn_q3, sn_t1l, sn_t1r, sn_t2l, sn_t2r, nI_clamp, x_leT, x_leF, x_ltT, x_ltF, x_eqT, x_eqF, x_le0T, x_le0F, x_0leT, x_lt0F, x_0ltT, x_0ltF, x_eq0T, x_eq0F, x_le1T, x_le1F, x_1leT, x_1leF, x_1ltT, x_1ltF, x_lt1T, x_lt1F, x_eq1T, x_eq1F, x_m1F, nI_add, nI_1, sn_mul, x_sub, x_sub1, sn_m1, l2, l3, l4, l5, l6, l7, l8, l9, l10, l11, l12, l13, l14, l15, l20, l30, l40, l48, l60, l64, l99, l100, l700, l999, not_true_eq_false, not_false_eq_true, x_t0, x_t1, lts1, x_10, x_1sub, eq_self, Nat.reduceSub, Nat.reduceAdd, Nat.reduceMul, ↓t1_of (c_chP1 hw hc hp), hy]
          · have e1 := ix_lt hy (by omega)
            have e2 : ¬ y ≤ nI 14 := ix_99 (n := 14) hy (by omega)
            simp (disch := omega) only [↓g_in, ↓g_c0, ↓g_c1, ↓reduceIte, ↓y_lt, ↓y_q1, ↓y_q2, ↓sn_q3, ↓sn_t1l, ↓sn_t1r, ↓sn_t2l, ↓sn_t2r, y_q1, y_q2, sn_q3, sn_t1l, sn_t1r, sn_t2l, sn_t2r, nI_clamp, x_leT, x_leF, x_ltT, x_ltF, x_eqT, x_eqF, x_le0T, x_le0F, x_0leT, x_lt0F, x_0ltT, x_0ltF, x_eq0T, x_eq0F, x_le1T, x_le1F, x_1leT, x_1leF, x_1ltT, x_1ltF, x_lt1T, x_lt1F, x_eq1T, x_eq1F, x_m1F, nI_add, nI_1, sn_mul, x_sub, x_sub1, sn_m1, l2, l3, l4, l5, l6, l7, l8, l9, l10, l11, l12, l13, l14, l15, l20, l30, l40, l48, l60, l64, l99, l100, l700, l999, not_true_eq_false, not_false_eq_true, x_t0, x_t1, lts1, x_10, x_1sub, eq_self, Nat.reduceSub, Nat.reduceAdd, Nat.reduceMul, ↓t1_of (c_chP1 hw hc hp), e1, e2]
        · simp (disch := omega) only [↓g_in, ↓g_c0, ↓g_c1, ↓reduceIte, ↓y_lt, ↓y_q1, ↓y_q2, ↓sn_q3, ↓sn_t1l, ↓sn_t1r, ↓sn_t2l, ↓sn_t2r, y_q1, y_q2, sn_q3, sn_t1l, sn_t1r, sn_t2l, sn_t2r, nI_clamp, x_leT, x_leF, x_ltT, x_ltF, x_eqT, x_eqF, x_le0T, x_le0F, x_0leT, x_lt0F, x_0ltT, x_0ltF, x_eq0T, x_eq0F, x_le1T, x_le1F, x_1leT, x_1leF, x_1ltT, x_1ltF, x_lt1T, x_lt1F, x_eq1T, x_eq1F, x_m1F, nI_add, nI_1, sn_mul, x_sub, x_sub1, sn_m1, l2, l3, l4, l5, l6, l7, l8, l9, l10, l11, l12, l13, l14, l15, l20, l30, l40, l48, l60, l64, l99, l100, l700, l999, not_true_eq_false, not_false_eq_true, x_t0, x_t1, lts1, x_10, x_1sub, eq_self, Nat.reduceSub, Nat.reduceAdd, Nat.reduceMul, ↓q2_of (m_isP1 hw hm h0 hp), ↓q2_of hw2, ↓q1_of (m_wi0 (y := 14) (n := 14) hy (by omega) rfl), ↓q2_of (m_rt0 (e := 2) h0 (by decide))]
      · have hlo : lo14 (C 9 0) := fun i hi => (hst.1 i (by omega)).1
        obtain ⟨C', e1, e2⟩ := c_outlived (x := C 9 0) hw hc hlo (show p < 5 by omega) hf ht
        have hp2 := p_le14 (A 0 0) (by omega)
        have hpc := pc_le (C 9 0)
        have ca := lk1_c (f := f) hn (fun i hi => (hst.1 i hi).1)
        have cg := lk2_c (A := A) (p := p) (f := f) hn (fun i hi => (hst.1 i hi).1)
        rw [← cg] at e1
        have hgb : cn (lk2 A (C 9 0) p f) (2 ^ A 0 0) ≤ cn (lk1 (C 9 0) f) (2 ^ A 0 0) := cn_mono (fun i _ hh => by unfold lk2 at hh; rw [Bool.and_eq_true] at hh; exact hh.1)
        have hab := chs_m (pc (C 9 0)) (by omega) f hf
        rw [← ca] at hab
        have lp := lp_in (fun g j (v : Nat × Nat) => F_Mo_luck_34 g (nI p) (nI f) (nI w) (C 9 0) (nI v.1) (nI v.2) j M1) (fun v => sd_q1 (F_Mo_portion (nI v.2) (nI v.1) (nI w)) fun r1 => some (r1, M1)) (fun j v => if lk1 (C 9 0) f j then (v.1 + 1, if cs A (C 9 0 &&& (nI j ^^^ -1)) p 0 then v.2 + 1 else v.2) else v) (fun j v => v = (cn (lk1 (C 9 0) f) j, cn (lk2 A (C 9 0) p f) j)) (2 ^ A 0 0) (0, 0) rfl (by omega) ?_ ?_
        · obtain ⟨lp, lv⟩ := lp
          have lp : F_Mo_luck_34 sd_fu (nI p) (nI f) (nI w) (C 9 0) 0 0 0 M1 = _ := lp
          rw [lv] at lp
          generalize cn (lk2 A (C 9 0) p f) (2 ^ A 0 0) = g at *
          generalize cn (lk1 (C 9 0) f) (2 ^ A 0 0) = a at *
          have cho := c_choose (pc (C 9 0)) (by omega) f hf
          rw [← ca] at cho
          by_cases hg0 : g = 0
          · subst hg0
            have c0 : lg_cmp (lN 0) 0 = 0 := (lg_cmp_eq _ _).mpr lN_0
            refine ⟨.inl (nI w), C', ?_, fun k h1 h2 h3 h4 => e2 k h1, mq_v (M' := M1) ?_ h0 hs⟩
            · simp (disch := omega) only [↓g_in, ↓g_c0, ↓g_c1, ↓reduceIte, ↓y_lt, ↓y_q1, ↓y_q2, ↓sn_q3, ↓sn_t1l, ↓sn_t1r, ↓sn_t2l, ↓sn_t2r, y_q1, y_q2, sn_q3, sn_t1l, sn_t1r, sn_t2l, sn_t2r, nI_clamp, x_leT, x_leF, x_ltT, x_ltF, x_eqT, x_eqF, x_le0T, x_le0F, x_0leT, x_lt0F, x_0ltT, x_0ltF, x_eq0T, x_eq0F, x_le1T, x_le1F, x_1leT, x_1leF, x_1ltT, x_1ltF, x_lt1T, x_lt1F, x_eq1T, x_eq1F, x_m1F, nI_add, nI_1, sn_mul, x_sub, x_sub1, sn_m1, l2, l3, l4, l5, l6, l7, l8, l9, l10, l11, l12, l13, l14, l15, l20, l30, l40, l48, l60, l64, l99, l100, l700, l999, not_true_eq_false, not_false_eq_true, x_t0, x_t1, lts1, x_10, x_1sub, eq_self, Nat.reduceSub, Nat.reduceAdd, Nat.reduceMul, ↓t1_of (c_chP1 hw hc hp), ↓q2_of e1, c0]
            · simp (disch := omega) only [↓g_in, ↓g_c0, ↓g_c1, ↓reduceIte, ↓y_lt, ↓y_q1, ↓y_q2, ↓sn_q3, ↓sn_t1l, ↓sn_t1r, ↓sn_t2l, ↓sn_t2r, y_q1, y_q2, sn_q3, sn_t1l, sn_t1r, sn_t2l, sn_t2r, nI_clamp, x_leT, x_leF, x_ltT, x_ltF, x_eqT, x_eqF, x_le0T, x_le0F, x_0leT, x_lt0F, x_0ltT, x_0ltF, x_eq0T, x_eq0F, x_le1T, x_le1F, x_1leT, x_1leF, x_1ltT, x_1ltF, x_lt1T, x_lt1F, x_eq1T, x_eq1F, x_m1F, nI_add, nI_1, sn_mul, x_sub, x_sub1, sn_m1, l2, l3, l4, l5, l6, l7, l8, l9, l10, l11, l12, l13, l14, l15, l20, l30, l40, l48, l60, l64, l99, l100, l700, l999, not_true_eq_false, not_false_eq_true, x_t0, x_t1, lts1, x_10, x_1sub, eq_self, Nat.reduceSub, Nat.reduceAdd, Nat.reduceMul, ↓q2_of (m_isP1 hw hm h0 hp), ↓q2_of hw2, ↓q1_of (m_wi1 (y := 14) (n := 14) hf (by omega) rfl), ↓q2_of (m_rt1 (x := 1) (e := 2) h0 n10), ↓q1_of (mo_so0 hw hm hst)]
              rw [lp]
              unfold F_Mo_portion
              rw [if_neg (sn_nn (show nI 0 = (0 : Int32) from rfl))]
              rfl
          · have c0 : ¬ lg_cmp (lN g) 0 = 0 := fun q => lN_ne0 (show 0 < g by omega) (by omega) ((lg_cmp_eq _ _).mp q)
            have hgp : 0 < Nat.gcd g a := Nat.gcd_pos_of_pos_left _ (by omega)
            have hgl : Nat.gcd g a ≤ g := Nat.gcd_le_left _ (by omega)
            have c1 : ¬ lg_cmp (lN (Nat.gcd g a)) 0 = 0 := fun q => lN_ne0 hgp (by omega) ((lg_cmp_eq _ _).mp q)
            have cd : F_Count_commonDivisor (lN g) (lN a) = some (lN (Nat.gcd g a)) := c_gcd 12 g a 0 sd_fu (by omega) (by omega) (by omega) (by rw [sd_fu_val]; omega) (by omega)
            have gn : ∀ {α : Type} {o : Option α}, sd_gu (¬ lN (Nat.gcd g a) = 0) o = o := fun {α o} => sn_gu (lN_ne0 hgp (by omega))
            have mg := m_gcd (g := g) (a := a) (w := w) g a sd_fu (by rw [sd_fu_val]; omega) (by omega) (by omega) (by omega) (by omega) (by omega)
            have po : F_Mo_portion (nI g) (nI a) (nI w) = some (if nI w = 0 then nI (g / Nat.gcd a g) else nI (a / Nat.gcd a g)) := by
              unfold F_Mo_portion
              rw [if_pos (nI_ne0 (by omega) (by omega))]
              exact mg
            rw [po, sn_q1] at lp
            have lg : ∀ v, v < 2 ^ 31 → Int64.toInt32 (lN v / lN (Nat.gcd g a)) = nI (v / Nat.gcd g a) := fun v hv => by rw [pk_lDiv (by omega) hgp (by omega), lN_i]
            by_cases hw0 : w = 0
            · subst hw0
              refine ⟨.inl (nI (g / Nat.gcd g a)), C', ?_, fun k h1 h2 h3 h4 => e2 k h1, mq_v (M' := M1) ?_ h0 hs⟩
              · simp (disch := omega) only [↓g_in, ↓g_c0, ↓g_c1, ↓reduceIte, ↓y_lt, ↓y_q1, ↓y_q2, ↓sn_q3, ↓sn_t1l, ↓sn_t1r, ↓sn_t2l, ↓sn_t2r, y_q1, y_q2, sn_q3, sn_t1l, sn_t1r, sn_t2l, sn_t2r, nI_clamp, x_leT, x_leF, x_ltT, x_ltF, x_eqT, x_eqF, x_le0T, x_le0F, x_0leT, x_lt0F, x_0ltT, x_0ltF, x_eq0T, x_eq0F, x_le1T, x_le1F, x_1leT, x_1leF, x_1ltT, x_1ltF, x_lt1T, x_lt1F, x_eq1T, x_eq1F, x_m1F, nI_add, nI_1, sn_mul, x_sub, x_sub1, sn_m1, l2, l3, l4, l5, l6, l7, l8, l9, l10, l11, l12, l13, l14, l15, l20, l30, l40, l48, l60, l64, l99, l100, l700, l999, not_true_eq_false, not_false_eq_true, x_t0, x_t1, lts1, x_10, x_1sub, eq_self, Nat.reduceSub, Nat.reduceAdd, Nat.reduceMul, ↓t1_of (c_chP1 hw hc hp), ↓q2_of e1, c0, int_bc hlo, cho, cd, c1, ↓gn, lg]
              · simp (disch := omega) only [↓g_in, ↓g_c0, ↓g_c1, ↓reduceIte, ↓y_lt, ↓y_q1, ↓y_q2, ↓sn_q3, ↓sn_t1l, ↓sn_t1r, ↓sn_t2l, ↓sn_t2r, y_q1, y_q2, sn_q3, sn_t1l, sn_t1r, sn_t2l, sn_t2r, nI_clamp, x_leT, x_leF, x_ltT, x_ltF, x_eqT, x_eqF, x_le0T, x_le0F, x_0leT, x_lt0F, x_0ltT, x_0ltF, x_eq0T, x_eq0F, x_le1T, x_le1F, x_1leT, x_1leF, x_1ltT, x_1ltF, x_lt1T, x_lt1F, x_eq1T, x_eq1F, x_m1F, nI_add, nI_1, sn_mul, x_sub, x_sub1, sn_m1, l2, l3, l4, l5, l6, l7, l8, l9, l10, l11, l12, l13, l14, l15, l20, l30, l40, l48, l60, l64, l99, l100, l700, l999, not_true_eq_false, not_false_eq_true, x_t0, x_t1, lts1, x_10, x_1sub, eq_self, Nat.reduceSub, Nat.reduceAdd, Nat.reduceMul, ↓q2_of (m_isP1 hw hm h0 hp), ↓q2_of hw2, ↓q1_of (m_wi1 (y := 14) (n := 14) hf (by omega) rfl), ↓q2_of (m_rt1 (x := 1) (e := 2) h0 n10), ↓q1_of (mo_so0 hw hm hst)]
                rw [lp, if_pos (show nI 0 = (0 : Int32) from rfl), Nat.gcd_comm]
            · have hw1 : ¬ nI w = 0 := nI_ne0 (by omega) (by omega)
              refine ⟨.inl (nI (a / Nat.gcd g a)), C', ?_, fun k h1 h2 h3 h4 => e2 k h1, mq_v (M' := M1) ?_ h0 hs⟩
              · simp (disch := omega) only [↓g_in, ↓g_c0, ↓g_c1, ↓reduceIte, ↓y_lt, ↓y_q1, ↓y_q2, ↓sn_q3, ↓sn_t1l, ↓sn_t1r, ↓sn_t2l, ↓sn_t2r, y_q1, y_q2, sn_q3, sn_t1l, sn_t1r, sn_t2l, sn_t2r, nI_clamp, x_leT, x_leF, x_ltT, x_ltF, x_eqT, x_eqF, x_le0T, x_le0F, x_0leT, x_lt0F, x_0ltT, x_0ltF, x_eq0T, x_eq0F, x_le1T, x_le1F, x_1leT, x_1leF, x_1ltT, x_1ltF, x_lt1T, x_lt1F, x_eq1T, x_eq1F, x_m1F, nI_add, nI_1, sn_mul, x_sub, x_sub1, sn_m1, l2, l3, l4, l5, l6, l7, l8, l9, l10, l11, l12, l13, l14, l15, l20, l30, l40, l48, l60, l64, l99, l100, l700, l999, not_true_eq_false, not_false_eq_true, x_t0, x_t1, lts1, x_10, x_1sub, eq_self, Nat.reduceSub, Nat.reduceAdd, Nat.reduceMul, ↓t1_of (c_chP1 hw hc hp), ↓q2_of e1, c0, int_bc hlo, cho, cd, c1, ↓gn, lg, hw1]
              · simp (disch := omega) only [↓g_in, ↓g_c0, ↓g_c1, ↓reduceIte, ↓y_lt, ↓y_q1, ↓y_q2, ↓sn_q3, ↓sn_t1l, ↓sn_t1r, ↓sn_t2l, ↓sn_t2r, y_q1, y_q2, sn_q3, sn_t1l, sn_t1r, sn_t2l, sn_t2r, nI_clamp, x_leT, x_leF, x_ltT, x_ltF, x_eqT, x_eqF, x_le0T, x_le0F, x_0leT, x_lt0F, x_0ltT, x_0ltF, x_eq0T, x_eq0F, x_le1T, x_le1F, x_1leT, x_1leF, x_1ltT, x_1ltF, x_lt1T, x_lt1F, x_eq1T, x_eq1F, x_m1F, nI_add, nI_1, sn_mul, x_sub, x_sub1, sn_m1, l2, l3, l4, l5, l6, l7, l8, l9, l10, l11, l12, l13, l14, l15, l20, l30, l40, l48, l60, l64, l99, l100, l700, l999, not_true_eq_false, not_false_eq_true, x_t0, x_t1, lts1, x_10, x_1sub, eq_self, Nat.reduceSub, Nat.reduceAdd, Nat.reduceMul, ↓q2_of (m_isP1 hw hm h0 hp), ↓q2_of hw2, ↓q1_of (m_wi1 (y := 14) (n := 14) hf (by omega) rfl), ↓q2_of (m_rt1 (x := 1) (e := 2) h0 n10), ↓q1_of (mo_so0 hw hm hst)]
                rw [lp, if_neg hw1, Nat.gcd_comm]
        · intro g v _
          show F_Mo_luck_34B (F_Mo_luck_34 g) (nI p) (nI f) (nI w) (C 9 0) (nI v.1) (nI v.2) (nI (2 ^ A 0 0)) M1 = _
          unfold F_Mo_luck_34B
          simp (disch := omega) only [↓g_in, ↓g_c0, ↓g_c1, ↓reduceIte, ↓y_lt, ↓y_q1, ↓y_q2, ↓sn_q3, ↓sn_t1l, ↓sn_t1r, ↓sn_t2l, ↓sn_t2r, y_q1, y_q2, sn_q3, sn_t1l, sn_t1r, sn_t2l, sn_t2r, nI_clamp, x_leT, x_leF, x_ltT, x_ltF, x_eqT, x_eqF, x_le0T, x_le0F, x_0leT, x_lt0F, x_0ltT, x_0ltF, x_eq0T, x_eq0F, x_le1T, x_le1F, x_1leT, x_1leF, x_1ltT, x_1ltF, x_lt1T, x_lt1F, x_eq1T, x_eq1F, x_m1F, nI_add, nI_1, sn_mul, x_sub, x_sub1, sn_m1, l2, l3, l4, l5, l6, l7, l8, l9, l10, l11, l12, l13, l14, l15, l20, l30, l40, l48, l60, l64, l99, l100, l700, l999, not_true_eq_false, not_false_eq_true, x_t0, x_t1, lts1, x_10, x_1sub, eq_self, Nat.reduceSub, Nat.reduceAdd, Nat.reduceMul, hm.1, b1_p14 (A 0 0) (show A 0 0 < 15 by omega)]
        · intro g z v hz hv
          have hz14 : z < 2 ^ 14 := by omega
          refine ⟨?_, ?_⟩
          · rw [hv]
            show (if lk1 (C 9 0) f z then _ else _) = (cn (lk1 (C 9 0) f) z + _, cn (lk2 A (C 9 0) p f) z + _)
            unfold lk2
            cases lk1 (C 9 0) f z
            · rfl
            · cases cs A (C 9 0 &&& (nI z ^^^ -1)) p 0 <;> rfl
          · have em := mo_canBeSung (p := p) (x := C 9 0 &&& (nI z ^^^ -1)) (u := 0) hw hm (by omega) (by decide)
            have em : F_Mo_canBeSung (C 9 0 &&& (nI z ^^^ -1)) (nI p) 0 M1 = some (if cs A (C 9 0 &&& (nI z ^^^ -1)) p 0 = true then 1 else 0) := em
            have p3 := pc_le (nI z)
            show F_Mo_luck_34B (F_Mo_luck_34 g) (nI p) (nI f) (nI w) (C 9 0) (nI v.1) (nI v.2) (nI z) M1 = F_Mo_luck_34 g (nI p) (nI f) (nI w) (C 9 0) (nI (if lk1 (C 9 0) f z then (v.1 + 1, if cs A (C 9 0 &&& (nI z ^^^ -1)) p 0 then v.2 + 1 else v.2) else v).1) (nI (if lk1 (C 9 0) f z then (v.1 + 1, if cs A (C 9 0 &&& (nI z ^^^ -1)) p 0 then v.2 + 1 else v.2) else v).2) (nI (z + 1)) M1
            unfold F_Mo_luck_34B lk1
            have k0 := sbs_iff (x := C 9 0) hz14
            rw [← sz1_bt]
            cases k1 : sbs (bt (C 9 0)) (fun i => z.testBit i)
            · have k2 : (nI z &&& (C 9 0 ^^^ -1) = 0) = False := eq_false (fun q => by rw [k0.mp q] at k1; cases k1)
              simp (disch := omega) only [↓g_in, ↓g_c0, ↓g_c1, ↓reduceIte, ↓y_lt, ↓y_q1, ↓y_q2, ↓sn_q3, ↓sn_t1l, ↓sn_t1r, ↓sn_t2l, ↓sn_t2r, y_q1, y_q2, sn_q3, sn_t1l, sn_t1r, sn_t2l, sn_t2r, nI_clamp, x_leT, x_leF, x_ltT, x_ltF, x_eqT, x_eqF, x_le0T, x_le0F, x_0leT, x_lt0F, x_0ltT, x_0ltF, x_eq0T, x_eq0F, x_le1T, x_le1F, x_1leT, x_1leF, x_1ltT, x_1ltF, x_lt1T, x_lt1F, x_eq1T, x_eq1F, x_m1F, nI_add, nI_1, sn_mul, x_sub, x_sub1, sn_m1, l2, l3, l4, l5, l6, l7, l8, l9, l10, l11, l12, l13, l14, l15, l20, l30, l40, l48, l60, l64, l99, l100, l700, l999, not_true_eq_false, not_false_eq_true, x_t0, x_t1, lts1, x_10, x_1sub, eq_self, Nat.reduceSub, Nat.reduceAdd, Nat.reduceMul, hm.1, b1_p14 (A 0 0) (show A 0 0 < 15 by omega), k2, Bool.false_and, Bool.false_eq_true]
            · have k2 := k0.mpr k1
              by_cases k3 : pc (nI z) = f
              · cases k4 : cs A (C 9 0 &&& (nI z ^^^ -1)) p 0 <;> rw [k4] at em
                · simp (disch := omega) only [↓g_in, ↓g_c0, ↓g_c1, ↓reduceIte, ↓y_lt, ↓y_q1, ↓y_q2, ↓sn_q3, ↓sn_t1l, ↓sn_t1r, ↓sn_t2l, ↓sn_t2r, y_q1, y_q2, sn_q3, sn_t1l, sn_t1r, sn_t2l, sn_t2r, nI_clamp, x_leT, x_leF, x_ltT, x_ltF, x_eqT, x_eqF, x_le0T, x_le0F, x_0leT, x_lt0F, x_0ltT, x_0ltF, x_eq0T, x_eq0F, x_le1T, x_le1F, x_1leT, x_1leF, x_1ltT, x_1ltF, x_lt1T, x_lt1F, x_eq1T, x_eq1F, x_m1F, nI_add, nI_1, sn_mul, x_sub, x_sub1, sn_m1, l2, l3, l4, l5, l6, l7, l8, l9, l10, l11, l12, l13, l14, l15, l20, l30, l40, l48, l60, l64, l99, l100, l700, l999, not_true_eq_false, not_false_eq_true, x_t0, x_t1, lts1, x_10, x_1sub, eq_self, Nat.reduceSub, Nat.reduceAdd, Nat.reduceMul, hm.1, b1_p14 (A 0 0) (show A 0 0 < 15 by omega), k2, mo_bits, k3, ↓q1_of em, decide_true, Bool.and_self, Bool.false_eq_true, Int32.add_zero]
                · simp (disch := omega) only [↓g_in, ↓g_c0, ↓g_c1, ↓reduceIte, ↓y_lt, ↓y_q1, ↓y_q2, ↓sn_q3, ↓sn_t1l, ↓sn_t1r, ↓sn_t2l, ↓sn_t2r, y_q1, y_q2, sn_q3, sn_t1l, sn_t1r, sn_t2l, sn_t2r, nI_clamp, x_leT, x_leF, x_ltT, x_ltF, x_eqT, x_eqF, x_le0T, x_le0F, x_0leT, x_lt0F, x_0ltT, x_0ltF, x_eq0T, x_eq0F, x_le1T, x_le1F, x_1leT, x_1leF, x_1ltT, x_1ltF, x_lt1T, x_lt1F, x_eq1T, x_eq1F, x_m1F, nI_add, nI_1, sn_mul, x_sub, x_sub1, sn_m1, l2, l3, l4, l5, l6, l7, l8, l9, l10, l11, l12, l13, l14, l15, l20, l30, l40, l48, l60, l64, l99, l100, l700, l999, not_true_eq_false, not_false_eq_true, x_t0, x_t1, lts1, x_10, x_1sub, eq_self, Nat.reduceSub, Nat.reduceAdd, Nat.reduceMul, hm.1, b1_p14 (A 0 0) (show A 0 0 < 15 by omega), k2, mo_bits, k3, ↓q1_of em, decide_true, Bool.and_self]
              · simp (disch := omega) only [↓g_in, ↓g_c0, ↓g_c1, ↓reduceIte, ↓y_lt, ↓y_q1, ↓y_q2, ↓sn_q3, ↓sn_t1l, ↓sn_t1r, ↓sn_t2l, ↓sn_t2r, y_q1, y_q2, sn_q3, sn_t1l, sn_t1r, sn_t2l, sn_t2r, nI_clamp, x_leT, x_leF, x_ltT, x_ltF, x_eqT, x_eqF, x_le0T, x_le0F, x_0leT, x_lt0F, x_0ltT, x_0ltF, x_eq0T, x_eq0F, x_le1T, x_le1F, x_1leT, x_1leF, x_1ltT, x_1ltF, x_lt1T, x_lt1F, x_eq1T, x_eq1F, x_m1F, nI_add, nI_1, sn_mul, x_sub, x_sub1, sn_m1, l2, l3, l4, l5, l6, l7, l8, l9, l10, l11, l12, l13, l14, l15, l20, l30, l40, l48, l60, l64, l99, l100, l700, l999, not_true_eq_false, not_false_eq_true, x_t0, x_t1, lts1, x_10, x_1sub, eq_self, Nat.reduceSub, Nat.reduceAdd, Nat.reduceMul, hm.1, b1_p14 (A 0 0) (show A 0 0 < 15 by omega), k2, mo_bits, k3, decide_false, Bool.and_false, Bool.false_eq_true]
end QU
