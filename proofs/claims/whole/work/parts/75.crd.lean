/-! ===== the class's reader at a token ===== -/
def rd (b : Nat → Nat) (n p off nv u0 k : Nat) (st : List Nat) (w : Nat) (C : sm_MI) : Prop := tks b n C ∧ (C 3 1 = nI k ∧ C 3 2 = nI (kk b n k)) ∧ (C 3 5 = nI (14 + off) ∧ C 3 6 = nI nv) ∧ (C p 1 = nI (u0 + st.length) ∧ ∀ i s, st[i]? = some s → C (p + 1) (u0 + i) = nI s) ∧ u0 + st.length + w ≤ k ∧ k ≤ 700
def csf (p u0 : Nat) (C C' : sm_MI) : Prop := (∀ j, j ≠ 3 → j ≠ p → j ≠ p + 1 → C' j = C j) ∧ (∀ j, j ≠ 1 → j ≠ 2 → j ≠ 3 → j ≠ 7 → C' 3 j = C 3 j) ∧ (∀ j, j ≠ 1 → C' p j = C p j) ∧ ∀ i, i < u0 → C' (p + 1) i = C (p + 1) i
def cft (p u0 e k : Nat) (C : sm_MI) : Prop := C 3 7 = nI e ∧ C 3 1 = nI k ∧ k ≤ 701 ∧ ∃ v, C p 1 = nI v ∧ u0 ≤ v ∧ v ≤ 700
def sbc (b : Nat → Nat) (n p off nv u0 : Nat) (F : sm_MI → Option (Int32 × sm_MI)) (PS : Nat → Nat → List Nat → Prop) (PF : Nat → Nat → Nat → Prop) : Prop := ∀ k st w C, rd b n p off nv u0 k st w C → ∃ r C', F C = some (r, C') ∧ csf p u0 C C' ∧
  ((r = 1 ∧ ∃ k' s, rd b n p off nv u0 k' (st ++ s) w C' ∧ k < k' ∧ PS k k' s) ∨ (r = 0 ∧ ∃ e k', cft p u0 e k' C' ∧ PF k e k'))
section RD
variable {b : Nat → Nat} {n p off nv u0 k w : Nat} {st : List Nat} {C C' C2 : sm_MI}
theorem csf.refl : csf p u0 C C := ⟨fun _ _ _ _ => rfl, fun _ _ _ _ _ => rfl, fun _ _ => rfl, fun _ _ => rfl⟩
theorem csf.trans (h : csf p u0 C C') (g : csf p u0 C' C2) : csf p u0 C C2 := ⟨fun j h1 h2 h3 => by rw [g.1 j h1 h2 h3, h.1 j h1 h2 h3], fun j h1 h2 h3 h4 => by rw [g.2.1 j h1 h2 h3 h4, h.2.1 j h1 h2 h3 h4], fun j h1 => by rw [g.2.2.1 j h1, h.2.2.1 j h1], fun i hi => by rw [g.2.2.2 i hi, h.2.2.2 i hi]⟩
theorem csf.up {j : Nat} {x : Int32} (hp : p = 35 ∨ p = 55) (h : csf p u0 C C') (hj : j = 1 ∨ j = 2 ∨ j = 3 ∨ j = 7) : csf p u0 C (sd_up C' 3 j x) :=
  h.trans ⟨fun j h1 h2 h3 => up_n h1, fun i h1 h2 h3 h4 => up_m (by omega), fun j h1 => by rw [up_n (by omega)], fun i hi => by rw [up_n (by omega)]⟩
theorem csf.add {u : Nat} {x y : Int32} (hp : p = 35 ∨ p = 55) (h : csf p u0 C C') (hu : u0 ≤ u) : csf p u0 C (sd_up (sd_up C' (p + 1) u x) p 1 y) :=
  h.trans ⟨fun j h1 h2 h3 => by rw [up_n h2, up_n h3], fun i h1 h2 h3 h4 => by rw [up_n (by omega), up_n (by omega)], fun j h1 => by rw [up_m h1, up_n (by omega)], fun i hi => by rw [up_n (by omega), up_m (by omega)]⟩
theorem c_atS {κ x : Nat} (h : C 3 2 = nI κ) (hκ : κ < 20000) (hx : x < 256) : F_Reader_atSign (nI x) C = some (if κ = 1000 + x then 1 else 0) := by
  unfold F_Reader_atSign
  rw [h, show (1000 : Int32) + nI x = nI (1000 + x) from nI_add 1000 x]
  by_cases e : κ = 1000 + x
  · rw [if_pos e, e, if_neg (sn_nn rfl)]
  · rw [if_neg e, if_pos (show ¬ nI κ = nI (1000 + x) from fun z => e ((nI_eq (by omega) (by omega)).mp z))]
theorem c_step (hp : p = 35 ∨ p = 55) (h : rd b n p off nv u0 k st w C) (hk : kk b n k ≠ 33) : ∃ C', F_Reader_step C = some C' ∧ rd b n p off nv u0 (k + 1) st (w + 1) C' ∧ csf p u0 C C' := by
  obtain ⟨h1, ⟨h2, h3⟩, ⟨h4, h5⟩, ⟨h6, h7⟩, h8, h9⟩ := h
  have hn := kk_n hk
  have hn7 := h1.1.1
  have t1 : tks b n (sd_up C 3 1 (nI (k + 1))) := tks_of h1 (up_n (by omega)) (up_n (by omega)) (up_n (by omega)) (up_n (by omega))
  have kd := tks_k (k := k + 1) t1 (by omega)
  have s1 : csf p u0 C (sd_up (sd_up C 3 1 (nI (k + 1))) 3 2 (nI (kk b n (k + 1)))) := (csf.refl.up hp (by omega)).up hp (by omega)
  refine ⟨_, ?_, ⟨tks_of t1 (up_n (by omega)) (up_n (by omega)) (up_n (by omega)) (up_n (by omega)), ⟨by rw [up_m (by omega)]; exact up_s, up_s⟩, ⟨by rw [up_m (by omega), up_m (by omega)]; exact h4, by rw [up_m (by omega), up_m (by omega)]; exact h5⟩, ⟨by rw [up_n (by omega), up_n (by omega)]; exact h6, fun i s hs => by rw [up_n (by omega), up_n (by omega)]; exact h7 i s hs⟩, by omega, by omega⟩, s1⟩
  unfold F_Reader_step
  rw [h2, show nI k + 1 = nI (k + 1) from nI_add k 1, y_lt, show sd_up C 3 1 (nI (k + 1)) 3 1 = nI (k + 1) from up_s, q1_of kd, y_lt]
theorem c_add {u : Nat} {x : Int32} (hp : p = 35 ∨ p = 55) (h : C p 1 = nI u) (hu : u < 700) : F_Rules_add p x C = some (sd_up (sd_up C (p + 1) u x) p 1 (nI (u + 1))) := by
  unfold F_Rules_add
  have e : sd_up C (p + 1) u x p 1 = nI u := by rw [up_n (by omega)]; exact h
  rw [h, if_neg (nI_pos (by omega)), if_neg (show ¬ (700 : Int32) ≤ nI u from nI_ge (b := 700) hu (by omega)), sn_gu (sn_in' (by omega) (by omega)), nI_clamp (by omega), y_lt, e, show nI u + 1 = nI (u + 1) from nI_add u 1, y_lt]
theorem snoc_at {α : Type} {st : List α} {c s : α} {i : Nat} (h : (st ++ [c])[i]? = some s) : (i = st.length ∧ s = c) ∨ (i < st.length ∧ st[i]? = some s) := by
  by_cases e : i = st.length
  · subst e
    rw [List.getElem?_append_right (Nat.le_refl _), Nat.sub_self] at h
    have h : some c = some s := h
    cases h
    exact Or.inl ⟨rfl, rfl⟩
  · have hi : i < (st ++ [c]).length := by
      rcases Nat.lt_or_ge i (st ++ [c]).length with z | z
      · exact z
      · rw [List.getElem?_eq_none z] at h; cases h
    rw [List.length_append] at hi
    have hi : i < st.length + 1 := hi
    rw [List.getElem?_append_left (by omega)] at h
    exact Or.inr ⟨by omega, h⟩
theorem rd_add {c : Nat} (hp : p = 35 ∨ p = 55) (h : rd b n p off nv u0 k st (w + 1) C) : ∃ C', F_Rules_add p (nI c) C = some C' ∧ rd b n p off nv u0 k (st ++ [c]) w C' ∧ csf p u0 C C' := by
  obtain ⟨h1, ⟨h2, h3⟩, ⟨h4, h5⟩, ⟨h6, h7⟩, h8, h9⟩ := h
  have len : (st ++ [c]).length = st.length + 1 := by rw [List.length_append]; rfl
  refine ⟨_, c_add hp h6 (by omega), ⟨tks_of h1 (by rw [up_n (by omega), up_n (by omega)]) (by rw [up_n (by omega), up_n (by omega)]) (by rw [up_n (by omega), up_n (by omega)]) (by rw [up_n (by omega), up_n (by omega)]), ⟨by rw [up_n (by omega), up_n (by omega)]; exact h2, by rw [up_n (by omega), up_n (by omega)]; exact h3⟩, ⟨by rw [up_n (by omega), up_n (by omega)]; exact h4, by rw [up_n (by omega), up_n (by omega)]; exact h5⟩, ⟨by rw [up_s, len, Nat.add_assoc], fun i s hs => ?_⟩, by rw [len]; omega, h9⟩, csf.refl.add hp (by omega)⟩
  rw [up_n (by omega)]
  rcases snoc_at hs with ⟨rfl, rfl⟩ | ⟨z1, z2⟩
  · exact up_s
  · rw [up_m (by omega)]; exact h7 i s z2
/-- a step is added, whatever happened -/
theorem c_addA {e : Nat} {x : Int32} (hp : p = 35 ∨ p = 55) (h : cft p u0 e k C) : ∃ C', F_Rules_add p x C = some C' ∧ csf p u0 C C' ∧ cft p u0 e k C' := by
  obtain ⟨g1, g2, g3, v, h1, h2, h3⟩ := h
  by_cases e : v < 700
  · exact ⟨_, c_add hp h1 e, csf.refl.add hp h2, by rw [up_n (by omega), up_n (by omega)]; exact g1, by rw [up_n (by omega), up_n (by omega)]; exact g2, g3, v + 1, up_s, by omega, by omega⟩
  · refine ⟨C, ?_, csf.refl, g1, g2, g3, v, h1, h2, h3⟩
    unfold F_Rules_add
    rw [h1, if_neg (nI_pos (by omega)), if_pos (show (700 : Int32) ≤ nI v from nI_le (a := 700) (by omega) (by omega))]
theorem rd_fail {e : Nat} (hp : p = 35 ∨ p = 55) (h : rd b n p off nv u0 k st w C) : cft p u0 e k (sd_up C 3 7 (nI e)) ∧ csf p u0 C (sd_up C 3 7 (nI e)) := by
  obtain ⟨h1, ⟨h2, h3⟩, ⟨h4, h5⟩, ⟨h6, h7⟩, h8, h9⟩ := h
  exact ⟨⟨up_s, by rw [up_m (by omega)]; exact h2, by omega, _, by rw [up_n (by omega)]; exact h6, by omega, by omega⟩, csf.refl.up hp (by omega)⟩
theorem c_fail {e : Nat} : F_Reader_fail (nI e) C = some (0, sd_up C 3 7 (nI e)) := by
  unfold F_Reader_fail
  rw [y_lt]
/-- a loop that reads on while an operator stands there -/
theorem c_loop {L : Nat → Int32 → Int32 → sm_MI → Option (Int32 × sm_MI)} {F : sm_MI → Option (Int32 × sm_MI)} {PS : Nat → Nat → List Nat → Prop} {PF : Nat → Nat → Nat → Prop} {op : Nat → Nat → Prop} {A : Nat → List Nat → Prop} {Bf : Nat → Nat → Prop} (hp : p = 35 ∨ p = 55) (hF : sbc b n p off nv u0 F PS PF)
    (h0 : ∀ f i C, i ≤ 700 → L (f + 1) 0 (nI i) C = some (0, C)) (h1 : ∀ f i C κ, i ≤ 700 → C 3 2 = nI κ → κ < 20000 → (∀ c, ¬ op κ c) → L (f + 1) 1 (nI i) C = some (1, C))
    (h2 : ∀ f i C κ c, C 3 2 = nI κ → κ < 20000 → op κ c → i < 700 → L (f + 1) 1 (nI i) C = sd_q1 (F_Reader_step C) fun I1 => sd_q2 (F I1) fun r2 I3 => sd_q1 (F_Rules_add p (nI c) I3) fun I4 => L f r2 (nI (i + 1)) I4)
    (hop : ∀ κ c, op κ c → κ ≠ 33) (hS : ∀ k1 s k2 t c, A k1 s → op (kk b n k1) c → PS (k1 + 1) k2 t → A k2 (s ++ t ++ [c])) (hB : ∀ k1 s e k2 c, A k1 s → op (kk b n k1) c → PF (k1 + 1) e k2 → Bf e k2) :
    ∀ d k1 i s C f, n - k1 ≤ d → d + 2 < f → i ≤ k1 → rd b n p off nv u0 k1 (st ++ s) w C → A k1 s → ∃ r C', L f 1 (nI i) C = some (r, C') ∧ csf p u0 C C' ∧ ((r = 1 ∧ ∃ k' s', rd b n p off nv u0 k' (st ++ s') w C' ∧ k1 ≤ k' ∧ A k' s' ∧ ∀ c, ¬ op (kk b n k') c) ∨ (r = 0 ∧ ∃ e k', cft p u0 e k' C' ∧ Bf e k')) := by
  intro d
  induction d with
  | zero =>
    intro k1 i s C f hd hf hi hr hA
    obtain ⟨f, rfl⟩ : ∃ g, f = g + 1 := ⟨f - 1, by omega⟩
    have hk7 := hr.2.2.2.2.2
    have no : ∀ c, ¬ op (kk b n k1) c := fun c hc => by
      have := kk_n (hop _ _ hc)
      omega
    exact ⟨1, C, h1 f i C _ (by omega) hr.2.1.2 hr.1.lt no, csf.refl, Or.inl ⟨rfl, k1, s, hr, Nat.le_refl _, hA, no⟩⟩
  | succ d ih =>
    intro k1 i s C f hd hf hi hr hA
    obtain ⟨f, rfl⟩ : ∃ g, f = g + 1 := ⟨f - 1, by omega⟩
    have hk7 := hr.2.2.2.2.2
    by_cases no : ∀ c, ¬ op (kk b n k1) c
    · exact ⟨1, C, h1 f i C _ (by omega) hr.2.1.2 hr.1.lt no, csf.refl, Or.inl ⟨rfl, k1, s, hr, Nat.le_refl _, hA, no⟩⟩
    · obtain ⟨c, hc⟩ : ∃ c, op (kk b n k1) c := Classical.byContradiction fun z => no fun c hc => z ⟨c, hc⟩
      have hk := hop _ _ hc
      have hn := kk_n hk
      have hn7 := hr.1.1.1
      obtain ⟨C1, s1, s2, s3⟩ := c_step hp hr hk
      obtain ⟨r, C2, f1, f2, f3⟩ := hF (k1 + 1) (st ++ s) (w + 1) C1 s2
      rw [h2 f i C _ c hr.2.1.2 hr.1.lt hc (by omega), q1_of s1, q2_of f1]
      rcases f3 with ⟨rfl, k2, t, g1, g2, g3⟩ | ⟨rfl, e, k2, g1, g2⟩
      · obtain ⟨C3, a1, a2, a3⟩ := rd_add (c := c) hp g1
        rw [q1_of a1]
        rw [List.append_assoc, List.append_assoc, ← List.append_assoc s t [c]] at a2
        obtain ⟨r', C4, i1, i2, i3⟩ := ih k2 (i + 1) (s ++ t ++ [c]) C3 f (by omega) (by omega) (by omega) a2 (hS _ _ _ _ _ hA hc g3)
        refine ⟨r', C4, i1, ((s3.trans f2).trans a3).trans i2, ?_⟩
        rcases i3 with ⟨rfl, k', s', j1, j2, j3⟩ | i3
        · exact Or.inl ⟨rfl, k', s', j1, by omega, j3⟩
        · exact Or.inr i3
      · obtain ⟨C3, a1, a2, a3⟩ := c_addA (x := nI c) hp g1
        rw [q1_of a1]
        obtain ⟨f, rfl⟩ : ∃ g, f = g + 1 := ⟨f - 1, by omega⟩
        exact ⟨0, C3, h0 f (i + 1) C3 (by omega), (s3.trans f2).trans a2, Or.inr ⟨rfl, e, k2, a3, hB _ _ _ _ _ hA hc g2⟩⟩
/-- a level: what the next one reads, and on -/
theorem c_level {L : Nat → Int32 → Int32 → sm_MI → Option (Int32 × sm_MI)} {F G : sm_MI → Option (Int32 × sm_MI)} {PS : Nat → Nat → List Nat → Prop} {PF : Nat → Nat → Nat → Prop} {op : Nat → Nat → Prop} {A : Nat → Nat → List Nat → Prop} {Bf : Nat → Nat → Nat → Prop} (hp : p = 35 ∨ p = 55) (hF : sbc b n p off nv u0 F PS PF)
    (hG : ∀ C, G C = sd_q2 (F C) fun r I => L sd_fu r 0 I)
    (h0 : ∀ f i C, i ≤ 700 → L (f + 1) 0 (nI i) C = some (0, C)) (h1 : ∀ f i C κ, i ≤ 700 → C 3 2 = nI κ → κ < 20000 → (∀ c, ¬ op κ c) → L (f + 1) 1 (nI i) C = some (1, C))
    (h2 : ∀ f i C κ c, C 3 2 = nI κ → κ < 20000 → op κ c → i < 700 → L (f + 1) 1 (nI i) C = sd_q1 (F_Reader_step C) fun I1 => sd_q2 (F I1) fun r2 I3 => sd_q1 (F_Rules_add p (nI c) I3) fun I4 => L f r2 (nI (i + 1)) I4)
    (hop : ∀ κ c, op κ c → κ ≠ 33) (hA : ∀ k k1 s, PS k k1 s → A k k1 s) (hBf : ∀ k e k1, PF k e k1 → Bf k e k1) (hS : ∀ k k1 s k2 t c, A k k1 s → op (kk b n k1) c → PS (k1 + 1) k2 t → A k k2 (s ++ t ++ [c])) (hB : ∀ k k1 s e k2 c, A k k1 s → op (kk b n k1) c → PF (k1 + 1) e k2 → Bf k e k2) :
    sbc b n p off nv u0 G (fun k k' s => A k k' s ∧ ∀ c, ¬ op (kk b n k') c) Bf := by
  intro k st w C hr
  have hn := hr.1.1.1
  obtain ⟨r, C1, f1, f2, f3⟩ := hF k st w C hr
  rw [hG, q2_of f1]
  rcases f3 with ⟨rfl, k1, s, g1, g2, g3⟩ | ⟨rfl, e, k1, g1, g2⟩
  · obtain ⟨r', C2, i1, i2, i3⟩ := c_loop (A := A k) (Bf := Bf k) hp hF h0 h1 h2 hop (hS k) (hB k) n k1 0 s C1 sd_fu (by omega) (by rw [sd_fu_val]; omega) (by omega) g1 (hA _ _ _ g3)
    refine ⟨r', C2, i1, f2.trans i2, ?_⟩
    rcases i3 with ⟨rfl, k', s', j1, j2, j3, j4⟩ | ⟨rfl, e, k', j1, j2⟩
    · exact Or.inl ⟨rfl, k', s', j1, by omega, j3, j4⟩
    · exact Or.inr ⟨rfl, e, k', j1, j2⟩
  · exact ⟨0, C1, h0 (sd_fu - 1) 0 C1 (by omega), f2, Or.inr ⟨rfl, e, k1, g1, hBf _ _ _ g2⟩⟩
end RD
