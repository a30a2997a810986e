/-! ===== the rule's line ===== -/
theorem mkw_10 : ∀ κ, κ < 24 → 2 ≤ κ → ¬ mkw κ = 10 ∧ ¬ mkw κ = 11 := by decide +kernel
theorem mkw_ns {κ : Nat} : (κ ≤ 1 ∧ mkw κ = nI (κ + 10)) ∨ (2 ≤ κ ∧ ¬ mkw κ = 10 ∧ ¬ mkw κ = 11) := by
  by_cases h : κ ≤ 1
  · exact Or.inl ⟨h, by unfold mkw; rw [if_pos (by omega)]⟩
  · refine Or.inr ⟨by omega, ?_⟩
    by_cases h2 : κ < 24
    · exact mkw_10 κ h2 (by omega)
    · rw [mkw_no (by omega)]; decide
theorem cnR_set {R : Nat → List Nat} {ρ : Nat} {s : List Nat} (hρ : ρ < 4) (h : R ρ = []) (hs : ¬ s = []) : cnR (fun x => if x = ρ then s else R x) = cnR R + 1 := by
  unfold cnR
  rcases (show ρ = 0 ∨ ρ = 1 ∨ ρ = 2 ∨ ρ = 3 by omega) with rfl | rfl | rfl | rfl
  · simp [h, hs]; omega
  · simp [h, hs]; omega
  · simp [h, hs]; omega
  · simp [h, hs]
theorem cnR_lt {R : Nat → List Nat} {ρ : Nat} (hρ : ρ < 4) (h : R ρ = []) : cnR R ≤ 3 := by
  unfold cnR
  rcases (show ρ = 0 ∨ ρ = 1 ∨ ρ = 2 ∨ ρ = 3 by omega) with rfl | rfl | rfl | rfl
  · rw [if_pos h]; repeat (first | omega | split)
  · rw [if_pos h]; repeat (first | omega | split)
  · rw [if_pos h]; repeat (first | omega | split)
  · rw [if_pos h]; repeat (first | omega | split)
theorem mco_len {off c : Nat} : (mco off c).length ≤ 2 := by
  unfold mco
  by_cases h1 : c < 10000
  · rw [if_pos h1]; exact Nat.le_refl _
  rw [if_neg h1]
  by_cases h2 : c < 20000
  · rw [if_pos h2]; exact Nat.le_refl _
  rw [if_neg h2]
  split <;> (show 1 ≤ 2; omega)
theorem mcf_len {off : Nat} : ∀ s, (mcf off s).length ≤ 2 * s.length
  | [] => Nat.le_refl _
  | c :: s => by
    show (mco off c ++ mcf off s).length ≤ 2 * (s.length + 1)
    rw [List.length_append]
    have := mcf_len (off := off) s
    have := mco_len (off := off) (c := c)
    omega
theorem at_lt {α : Type} {l : List α} {i : Nat} {x : α} (h : l[i]? = some x) : i < l.length := by
  rcases Nat.lt_or_ge i l.length with z | z
  · exact z
  · rw [List.getElem?_eq_none z] at h; cases h
section LN
variable {b : Nat → Nat} {n k u a d : Nat} {A : sA} {R : Nat → List Nat} {ev : Bool} {C C' C2 M M' M2 : sm_MI} {J J' : sm_MJ}
theorem csf.fC {p : Nat} (h : csf p u C C') (hp : p = d + 14) : fC d C C' := fun j h1 h2 => h.1 j h1 (by omega) (by omega)
theorem xsm.fM (h : xsm a M M') : fM M M' := ⟨fun k hk => h.1 k (by omega) (by omega) (by omega) (by omega), fun j hj => h.2.1 j (by omega)⟩
theorem c_opens {p ρ : Nat} {x : Int32} (hρ : ρ < 4) (h : C p 1 = x) : F_Rules_opens p (nI ρ) C = some (sd_up C (p + 2) ρ x) := by
  unfold F_Rules_opens
  rw [if_neg (nI_pos (by omega)), if_neg (show ¬ (4 : Int32) ≤ nI ρ from nI_ge (b := 4) (by omega) (by omega)), sn_gu (sn_in' hρ (by omega)), nI_clamp (by omega), h, y_lt]
theorem c_close {p ρ : Nat} {x : Int32} (hρ : ρ < 4) (h : C p 1 = x) : F_Rules_close p (nI ρ) C = some (sd_up C (p + 3) ρ x) := by
  unfold F_Rules_close
  rw [if_neg (nI_pos (by omega)), if_neg (show ¬ (4 : Int32) ≤ nI ρ from nI_ge (b := 4) (by omega) (by omega)), sn_gu (sn_in' hρ (by omega)), nI_clamp (by omega), h, y_lt]
theorem c_hasR {p ρ x l : Nat} (hρ : ρ < 4) (h1 : C (p + 2) ρ = nI x) (h2 : C (p + 3) ρ = nI (x + l)) (hx : x + l ≤ 700) : F_Rules_has p (nI ρ) C = some (if l = 0 then 0 else 1) := by
  unfold F_Rules_has
  rw [if_neg (nI_pos (by omega)), if_neg (show ¬ (4 : Int32) ≤ nI ρ from nI_ge (b := 4) (by omega) (by omega)), sn_gu (sn_in' hρ (by omega)), sn_gu (sn_in' hρ (by omega)), nI_clamp (by omega), h1, h2]
  by_cases e : l = 0
  · rw [if_pos e, if_pos (nI_le (by omega) (by omega))]
  · rw [if_neg e, if_neg (nI_ge (by omega) (by omega))]
theorem m_rl37 {x1 x3 : Int32} {e : Nat} (hb : mbad b n e k M) : F_Mo_readsRule_37 x1 x3 M J = some (M, J) := by
  unfold F_Mo_readsRule_37
  rw [q1_of hb.bad, if_neg (sn_nn rfl)]
theorem m_rl14 {x1 x2 : Int32} {e : Nat} (hb : mbad b n e k M) : F_Mo_readsRule_14 x1 x2 M J = some (M, J) := by
  unfold F_Mo_readsRule_14 F_Mo_readsRule_23
  have : ∀ y, (sd_lt y fun a1 => sd_q1 (F_Mo_isGood M) fun r2 => if r2 = 0 then F_Mo_readsRule_37 x1 a1 M J else sd_gu (sm_in a1 4 = true) (if M 82 (Int32.toNatClampNeg a1) = -1 then F_Mo_readsRule_37 x1 a1 M J else sd_q1 (F_Mo_wrong 5 M) fun I4 => F_Mo_readsRule_37 x1 a1 I4 J)) = some (M, J) := fun y => by
    rw [y_lt, q1_of hb.bad, if_pos rfl]; exact m_rl37 hb
  split <;> exact this _
theorem l_rule {q off nv : Nat} (h : ls b n k A R ev u a d C M J) (hk : kk b n k ≠ 33) (hq : (q = 0 ∧ off = 0 ∧ nv = 6) ∨ (q = 1 ∧ off = 6 ∧ nv = 4)) : lres b n d k C M J (cend (F_Reader_readRule (d + 14) (nI (2 * q)) C)) (F_Mo_line_77 (nI (19 + q)) M J) := by
  have hh := h
  obtain ⟨⟨hc, hm⟩, ⟨hw, hev, hrw⟩, ⟨h3, h4⟩, ⟨h5, h6⟩, ⟨h7, h8, h9⟩, hd⟩ := h
  have ho : (off = 0 ∧ nv = 6) ∨ (off = 6 ∧ nv = 4) := by omega
  obtain ⟨p, hpd⟩ : ∃ p, p = d + 14 := ⟨_, rfl⟩
  have hp : p = 35 ∨ p = 55 := by omega
  rw [← hpd] at h5 ⊢
  have hn := kk_n hk
  have hn7 := hm.1.1.1
  obtain ⟨C1, s1, s2, s3, s4⟩ := ck_step hc (by omega)
  obtain ⟨M1, J1, g1, g2, g3, g4⟩ := mk_goes hm
  have h5' : crl R u p C1 := crl_of h5 (fun j _ _ => s3.1 j (by omega))
  have h6' : mrl R a M1 := mrl_of h6 (g3.2 30 (by omega)) (g3.1 82 (by omega)) (g3.1 83 (by omega))
  have eq : nI (19 + q) - 19 = nI q := by rw [show (19 : Int32) = nI 19 from rfl, x_sub (by omega), Nat.add_sub_cancel_left]
  have bad : ∀ e oc om, 0 < e → e < 10 → (sd_q2 (F_Reader_fail (nI e) C1) fun r1 I2 => some ((vp_nar .boolean r1 : Int32), I2)) = oc → (∀ M2, F_Mo_wrong (nI e) M1 = some M2 → mbad b n e (k + 1) M2 → om = some (M2, J1)) → lres b n d k C M J (cend oc) (sd_q2 om fun I J => F_Mo_line_86 I J) := by
    intro e oc om he0 he1 h1 h2
    obtain ⟨M2, w1, w2, w3⟩ := mk_wrong (e := e) g2 ⟨he0, he1⟩
    refine lres_bad (e := e) (k' := k + 1) (C' := sd_up C1 3 7 (nI e)) (M' := M2) (J' := J1) ?_ ?_ (s3.fC.up (by omega)) (g3.m3.fM.trans w3.fM) g4 (by omega) (cbad_f s2) w2
    · rw [← h1, q2_of c_fail, nar0]
      unfold cend
      rw [y_q2, if_pos rfl]
    · rw [h2 M2 w1 w2, y_q2]
      exact m_86b w2
  unfold F_Reader_readRule F_Mo_line_77
  rw [q1_of s1, s2.2.2, if_neg (nI_pos (by have := s2.lt; omega)), eq]
  have em : ∀ z, F_Mo_readsRule (nI q) M J = z ↔ (if mkw (kk b n (k + 1)) = 10 then F_Mo_readsRule_14 (nI q) (mkw (kk b n (k + 1))) M1 J1 else if mkw (kk b n (k + 1)) = 11 then F_Mo_readsRule_14 (nI q) (mkw (kk b n (k + 1))) M1 J1 else sd_q1 (F_Mo_wrong 1 M1) fun I4 => F_Mo_readsRule_14 (nI q) (mkw (kk b n (k + 1))) I4 J1) = z := fun z => by
    unfold F_Mo_readsRule
    rw [q2_of g1, q1_of g2.1.kw]
  rcases mkw_ns (κ := kk b n (k + 1)) with ⟨e1, e2⟩ | ⟨e1, e2, e3⟩
  · generalize hκ : kk b n (k + 1) = κ at e1 e2
    have hρ : 2 * q + κ < 4 := by omega
    generalize hρe : 2 * q + κ = ρ at hρ
    have eρ : nI (2 * q) + nI κ - 0 = nI ρ := by rw [nI_add, hρe]; show nI ρ - nI 0 = nI ρ; rw [x_sub (by omega)]; rfl
    have e14 : F_Mo_readsRule (nI q) M J = F_Mo_readsRule_14 (nI q) (nI (κ + 10)) M1 J1 := by
      rw [em, hκ, e2]
      rcases (show κ = 0 ∨ κ = 1 by omega) with z | z
      · rw [z, if_pos (show nI (0 + 10) = 10 from rfl)]
      · rw [z, if_neg (show ¬ nI (1 + 10) = 10 by decide), if_pos (show nI (1 + 10) = 11 from rfl)]
    have e23 : F_Mo_readsRule (nI q) M J = F_Mo_readsRule_23 (nI q) (2 * nI q) (nI κ) M1 J1 := by
      rw [e14]
      unfold F_Mo_readsRule_14
      rcases (show κ = 0 ∨ κ = 1 by omega) with z | z
      · rw [z, if_pos (show ¬ nI (0 + 10) = 11 by decide)]; rfl
      · rw [z, if_neg (sn_nn (show nI (1 + 10) = 11 from rfl))]; rfl
    have e24 : F_Mo_readsRule (nI q) M J = (if M1 82 ρ = -1 then F_Mo_readsRule_37 (nI q) (nI ρ) M1 J1 else sd_q1 (F_Mo_wrong 5 M1) fun I4 => F_Mo_readsRule_37 (nI q) (nI ρ) I4 J1) := by
      rw [e23]
      unfold F_Mo_readsRule_23
      rw [show 2 * nI q + nI κ = nI ρ from by rw [show (2 : Int32) = nI 2 from rfl, sn_mul, nI_add, hρe], y_lt, q1_of g2.good, if_neg (by decide), sn_gu (sn_in' hρ (by omega)), nI_clamp (by omega)]
    obtain ⟨x, c1, c2, c3', c4⟩ := h5'.2 ρ hρ
    have hu7 := h5'.1.2
    have m1 := h6'.2 ρ hρ
    have ehas := c_hasR (C := C1) (p := p) hρ c1 c2 (by omega)
    rw [if_pos (show nI κ ≤ 1 from nI_le (b := 1) e1 (by omega)), eρ, y_lt, q1_of ehas]
    by_cases eR : R ρ = []
    · have eL : (R ρ).length = 0 := by rw [eR]; rfl
      rw [if_pos eL, if_pos rfl]
      have m82 := m1.1 eR
      have hn1 : k + 1 < n := kk_n (b := b) (n := n) (k := k + 1) (by omega)
      have hcn := cnR_lt hρ eR
      -- the class
      have hc2 : ck b n (k + 1) (sd_up (sd_up C1 3 5 (nI (14 + off))) 3 6 (nI nv)) := ck_up (ck_up s2 (by omega)) (by omega)
      obtain ⟨C2, t1, t2, t3, t4⟩ := ck_step hc2 (by omega)
      have cc : ∀ j, j ≠ 3 → C2 j = C1 j := fun j hj => by rw [t3.1 j hj, up_n hj, up_n hj]
      have cp1 : C2 p 1 = nI u := by rw [cc p (by omega)]; exact h5'.1.1
      have hop := c_opens (C := C2) (p := p) hρ cp1
      have hrd : rd b n p off nv u (k + 1 + 1) [] 0 (sd_up C2 (p + 2) ρ (nI u)) := by
        refine ⟨tks_of t2.1 (by rw [up_n (by omega)]) (by rw [up_n (by omega)]) (by rw [up_n (by omega)]) (by rw [up_n (by omega)]), ⟨by rw [up_n (by omega)]; exact t2.2.1, by rw [up_n (by omega)]; exact t2.2.2⟩, ⟨?_, ?_⟩, ⟨?_, fun i s hs => by cases hs⟩, by show u + 0 + 0 ≤ _; omega, by omega⟩
        · rw [up_n (by omega), t4 5 (by omega) (by omega), up_m (by omega)]; exact up_s
        · rw [up_n (by omega), t4 6 (by omega) (by omega)]; exact up_s
        · rw [up_n (by omega)]; exact cp1
      obtain ⟨r, C3, f1, f2, f3⟩ := c_expr (b := b) (n := n) (u0 := u) hp ho 5 0 8 (by omega) (by omega) (k + 1 + 1) [] 0 _ hrd
      have ecl : ∀ v, C3 p 1 = nI v → (if (2 : Int32) ≤ nI (2 * q) then F_Reader_readRule_34 p (nI ρ) 0 C1 else F_Reader_readRule_34 p (nI ρ) 1 C1) = some (vp_nar .boolean r, sd_up C3 (p + 3) ρ (nI v)) := by
        intro v hv
        have e48 : ∀ z, z = nI nv → F_Reader_readRule_48 p (nI ρ) z (sd_up C1 3 5 (nI (14 + off))) = some (vp_nar .boolean r, sd_up C3 (p + 3) ρ (nI v)) := fun z hz => by
          subst hz
          unfold F_Reader_readRule_48
          rw [y_lt, q1_of t1, q1_of hop, q2_of (show E_readExpr 8 p 0 _ = _ from f1), q1_of (c_close hρ hv)]
        unfold F_Reader_readRule_34 F_Reader_readRule_41
        rcases hq with ⟨rfl, rfl, rfl⟩ | ⟨rfl, rfl, rfl⟩
        · rw [if_neg (show ¬ (2 : Int32) ≤ nI (2 * 0) by decide), if_neg (show ¬ (1 : Int32) = 0 by decide), y_lt, if_neg (show ¬ (1 : Int32) = 0 by decide)]
          exact e48 6 rfl
        · rw [if_pos (show (2 : Int32) ≤ nI (2 * 1) by decide), if_pos rfl, y_lt, if_pos rfl]
          exact e48 4 rfl
      -- the model
      obtain ⟨M2, J2, i1, i2, i3, i4⟩ := mk_goes g2
      have m30 : M2 61 30 = nI a := by rw [i3.2 30 (by omega)]; exact h6'.1
      have hmk : mk b n (k + 1 + 1) (sd_up M2 82 ρ (nI a)) J2 := mk_up i2 (by omega)
      have e37 : F_Mo_readsRule (nI q) M J = sd_q2 (F_Mo_expression (nI off) (nI (off + nv - 1)) (sd_up M2 82 ρ (nI a)) J2) fun I1 J2 => some (I1, J2) := by
        rw [e24, if_pos m82]
        unfold F_Mo_readsRule_37 F_Mo_readsRule_55 F_Mo_readsRule_60
        rw [q1_of g2.good, if_pos (by decide), q2_of i1, sn_gu (sn_in' hρ (by omega)), nI_clamp (by omega), m30, y_lt]
        rcases hq with ⟨rfl, rfl, rfl⟩ | ⟨rfl, rfl, rfl⟩
        · rw [if_neg (sn_nn (show nI 0 = 0 from rfl)), if_neg (sn_nn (show nI 0 = 0 from rfl))]; rfl
        · rw [if_pos (show ¬ nI 1 = 0 by decide), if_pos (show ¬ nI 1 = 0 by decide)]; rfl
      have hxp : ∀ rr, SYe (kk b n) off nv (some (true, 0)) (k + 1 + 1) [] [] [0] rr → mres b n a (sd_up (sd_up (sd_up M2 82 ρ (nI a)) 61 31 (nI off)) 61 32 (nI (off + nv - 1))) J2 rr (F_Mo_expression (nI off) (nI (off + nv - 1)) (sd_up M2 82 ρ (nI a)) J2) := fun rr hs =>
        m_expr ho hs hmk.1 hmk.2.1 hmk.2.2 (by rw [up_n (by omega)]; exact m30) (by omega) (by omega)
      have fcc : fC d C C3 := ((((s3.fC.up (by omega)).up (by omega)).trans t3.fC).up (by omega)).trans (f2.fC hpd)
      have fmm : fM M (sd_up (sd_up (sd_up M2 82 ρ (nI a)) 61 31 (nI off)) 61 32 (nI (off + nv - 1))) := (((g3.m3.fM.trans i3.m3.fM).up (by omega)).up (by omega)).up (by omega)
      rcases f3 with ⟨rfl, k', s, y1, y2, y3, τ, y4, y5, y6⟩ | ⟨rfl, e, k', y1, y2, y3⟩
      · have hsy := y6 [] [] [] (.inr (k', ([] ++ mcf off s) ++ [0])) rfl (by decide) (SYe.en0 (ql_fin (by omega)))
        obtain ⟨M3, J3, x1, x2, x3, x4, x5, x6, x7, x8⟩ := hxp _ hsy
        rw [List.nil_append] at x7 x8 y1
        have okp0 := okq_end y3 (by omega)
        have hsn : ¬ s = [] := fun z => by rw [z] at okp0; exact absurd okp0 (by show ¬ (0 = 1); omega)
        have hlen := mcf_len (off := off) s
        have hl1 : (mcf off s ++ [0]).length = (mcf off s).length + 1 := by rw [List.length_append]; rfl
        have ems : mcs (ofs ρ) s = mcf off s ++ [0] := by
          rw [mcs_mcf]
          rw [show ofs ρ = off from by unfold ofs; split <;> omega]
        have nvρ : nvs ρ = nv := by unfold nvs; split <;> omega
        obtain ⟨r1, ⟨r2, r3⟩, r4, ⟨r5, r6⟩, r7, r8⟩ := y1
        rw [ecl _ r5, e37, x1, y_q2, nar1]
        have cn := cnR_set hρ eR hsn
        have hnew : ls b n k' A (fun x => if x = ρ then s else R x) ev (u + s.length) (a + (mcf off s ++ [0]).length) d (sd_up C3 (p + 3) ρ (nI (u + s.length))) M3 J3 := by
          have c3j : ∀ j, j ≠ 3 → j ≠ p → j ≠ p + 1 → j ≠ p + 2 → j ≠ p + 3 → sd_up C3 (p + 3) ρ (nI (u + s.length)) j = C j := fun j j1 j2 j3 j4 j5 => by rw [up_n j5, f2.1 j j1 j2 j3, up_n j4, cc j j1, s3.1 j j1]
          have m3j : ∀ j, j ≠ 61 → j ≠ 82 → j ≠ 83 → j ≠ 84 → j ≠ 85 → M3 j = M j := fun j j1 j2 j3 j4 j5 => by rw [x2.1 j j1 j3 j4 j5, up_n j1, up_n j1, up_n j2, i3.1 j j1, g3.1 j j1]
          have m61 : ∀ j, 25 < j → j < 30 → M3 61 j = M 61 j := fun j j1 j2 => by rw [x2.2.1 j (by omega), up_m (by omega), up_m (by omega), up_n (by omega), i3.2 j (by omega), g3.2 j (by omega)]
          refine ⟨⟨ck_up ⟨r1, r2, r3⟩ (by omega), x4, x5, x6⟩, ⟨hw, hev, ?_⟩, ⟨cdf_of h3 (fun j j1 j2 => c3j j (by omega) (by omega) (by omega) (by omega) (by omega)) ?_, mdf_of h4 (fun j j1 j2 => m3j j (by omega) (by omega) (by omega) (by omega) (by omega)) (fun j j1 j2 => m61 j (by omega) (by omega))⟩, ⟨?_, ?_⟩, ⟨by omega, by rw [cn, hl1]; omega, r8⟩, hd⟩
          · intro σ hσ
            by_cases z : σ = ρ
            · subst z
              show ¬ (if σ = σ then s else R σ) = [] → okp (nvs σ) (if σ = σ then s else R σ) 0
              rw [if_pos rfl, nvρ]; exact fun _ => okp0
            · show ¬ (if σ = ρ then s else R σ) = [] → okp (nvs σ) (if σ = ρ then s else R σ) 0
              rw [if_neg z]; exact hrw σ hσ
          · rw [up_n (by omega), f2.2.1 4 (by omega) (by omega) (by omega) (by omega), up_n (by omega), t4 4 (by omega) (by omega), up_m (by omega), up_m (by omega), s4 4 (by omega) (by omega)]
          · rw [← hpd]
            refine ⟨⟨by rw [up_n (by omega)]; exact r5, by omega⟩, fun σ hσ => ?_⟩
            by_cases z : σ = ρ
            · subst z
              simp only [if_pos]
              refine ⟨u, ?_, up_s, Nat.le_refl _, fun i c hc => ?_⟩
              · rw [up_n (by omega), f2.1 (p + 2) (by omega) (by omega) (by omega)]; exact up_s
              · rw [up_n (by omega)]; exact r6 i c hc
            · simp only [if_neg z]
              obtain ⟨x, z1, z2, z3, z4⟩ := h5'.2 σ hσ
              refine ⟨x, ?_, ?_, by omega, fun i c hc => ?_⟩
              · rw [up_n (by omega), f2.1 (p + 2) (by omega) (by omega) (by omega), up_m z, cc (p + 2) (by omega)]; exact z1
              · rw [up_m z, f2.1 (p + 3) (by omega) (by omega) (by omega), up_n (by omega), cc (p + 3) (by omega)]; exact z2
              · have := at_lt hc
                rw [up_n (by omega), f2.2.2.2 (x + i) (by omega), up_n (by omega), cc (p + 1) (by omega)]; exact z4 i c hc
          · refine ⟨x7, fun σ hσ => ?_⟩
            by_cases z : σ = ρ
            · subst z
              simp only [if_pos]
              refine ⟨fun z => absurd z hsn, fun _ => ⟨a, ?_, by rw [ems]; omega, fun i c hc => ?_⟩⟩
              · rw [x2.1 82 (by omega) (by omega) (by omega) (by omega), up_n (by omega), up_n (by omega)]; exact up_s
              · rw [ems] at hc; exact x8 i c hc
            · simp only [if_neg z]
              obtain ⟨z1, z2⟩ := h6'.2 σ hσ
              have e82 : M3 82 σ = M1 82 σ := by rw [x2.1 82 (by omega) (by omega) (by omega) (by omega), up_n (by omega), up_n (by omega), up_m z, i3.1 82 (by omega)]
              rw [e82]
              refine ⟨z1, fun zn => ?_⟩
              obtain ⟨x, v1, v2, v3⟩ := z2 zn
              refine ⟨x, v1, by omega, fun i c hc => ?_⟩
              have := at_lt hc
              rw [x2.2.2 (x + i) (by omega), up_n (by omega), up_n (by omega), up_n (by omega), i3.1 83 (by omega)]
              exact v3 i c hc
        rw [y_q2]
        exact (l_end hnew).from (fcc.up (by omega)) (fmm.trans x2.fM) ((g4.trans i4).trans x3) (by omega)
      · obtain ⟨v, y4, y5, y6⟩ := y1.2.2.2
        obtain ⟨M3, J3, x1, x2, x3, x4, x5⟩ := hxp _ (y3 [] [] [] rfl (by decide))
        have hb : mbad b n e k' M3 := ⟨⟨x4, x5⟩, y2⟩
        rw [ecl _ y4, e37, x1, y_q2, nar0, y_q2]
        refine lres_bad (C' := sd_up C3 (p + 3) ρ (nI v)) (M' := M3) (J' := J3) (e := e) (k' := k') ?_ (m_86b hb) (fcc.up (by omega)) (fmm.trans x2.fM) ((g4.trans i4).trans x3) y1.2.2.1 ⟨by rw [up_n (by omega)]; exact y1.1, by rw [up_n (by omega)]; exact y1.2.1⟩ hb
        unfold cend
        rw [y_q2, if_pos rfl]
    · have eL : ¬ (R ρ).length = 0 := fun z => eR (List.length_eq_zero_iff.mp z)
      rw [if_neg eL, if_neg (by decide)]
      obtain ⟨x, v1, v2, v3⟩ := m1.2 eR
      have ha : a ≤ 2 * u + 4 := by have := h8; have : cnR R ≤ 4 := (by unfold cnR; repeat (first | omega | split)); omega
      refine bad 5 _ _ (by omega) (by omega) rfl ?_
      intro M3 w1 w2
      rw [e24, if_neg (show ¬ M1 82 ρ = -1 by rw [v1]; exact sn_ne1 (by omega)), q1_of (show F_Mo_wrong 5 M1 = _ from w1)]
      exact m_rl37 w2
  · rw [if_neg (show ¬ nI (kk b n (k + 1)) ≤ 1 from nI_ge (a := 1) (by omega) (by have := s2.lt; omega))]
    refine bad 1 _ _ (by omega) (by omega) rfl ?_
    intro M3 w1 w2
    rw [em, if_neg e2, if_neg e3, q1_of (show F_Mo_wrong 1 M1 = _ from w1)]
    exact m_rl14 w2
end LN
