/-! ===== what levels of an expression come to ===== -/
def mcf (off : Nat) : List Nat → List Nat
  | [] => []
  | s :: P => mco off s ++ mcf off P
theorem mcf_app {off : Nat} : ∀ s t, mcf off (s ++ t) = mcf off s ++ mcf off t
  | [], t => rfl
  | x :: s, t => by
    show mco off x ++ mcf off (s ++ t) = (mco off x ++ mcf off s) ++ mcf off t
    rw [mcf_app s t, List.append_assoc]
theorem mcs_mcf {off : Nat} : ∀ s, mcs off s = mcf off s ++ [0]
  | [] => rfl
  | x :: s => by
    show mco off x ++ mcs off s = (mco off x ++ mcf off s) ++ [0]
    rw [mcs_mcf s, List.append_assoc]
theorem mcf_op {off c : Nat} (h : 20000 ≤ c) (h2 : c ≠ 20002) : mcf off [c] = [mop (c - 20000)] := by
  show mco off c ++ [] = _
  rw [List.append_nil]
  unfold mco
  rw [if_neg (by omega), if_neg (by omega), if_neg h2]
theorem mcf_no {off : Nat} : mcf off [20002] = [3] := by
  show mco off 20002 ++ [] = _
  rw [List.append_nil, mco_no]
/-- how high a stack its steps need -/
def okq (nv D : Nat) (s : List Nat) : Prop := ∀ P h, h + D ≤ 60 → okp nv P (h + 1) → okp nv (s ++ P) h
theorem okq_1 {nv v : Nat} (h : v < 10000 + nv) : okq nv 1 [v] := fun P x h1 h2 => Or.inl ⟨h, by omega, h2⟩
theorem okq_up {nv D D' : Nat} {s : List Nat} (h : okq nv D s) (hD : D ≤ D') : okq nv D' s := fun P x h1 h2 => h P x (by omega) h2
theorem okq_op {nv D c : Nat} {s t : List Nat} (h : okq nv (D + 1) s) (g : okq nv D t) (hc : 20000 ≤ c ∧ c ≤ 20008 ∧ c ≠ 20002) : okq nv (D + 1) (s ++ t ++ [c]) := fun P x h1 h2 => by
  rw [List.append_assoc, List.append_assoc]
  refine h _ x h1 (g _ (x + 1) (by omega) ?_)
  exact Or.inr (Or.inr ⟨hc.1, hc.2.1, hc.2.2, by omega, h2⟩)
theorem okq_no {nv D : Nat} {s : List Nat} (h : okq nv D s) : okq nv D (s ++ [20002]) := fun P x h1 h2 => by
  rw [List.append_assoc]
  exact h _ x h1 (Or.inr (Or.inl ⟨rfl, by omega, h2⟩))
theorem okq_end {nv D : Nat} {s : List Nat} (h : okq nv D s) (hD : D ≤ 60) : okp nv s 0 := by
  have := h [] 0 (by omega) rfl
  rw [List.append_nil] at this
  exact this
def wlv : List Nat → Nat
  | [] => 0
  | c :: _ => if 14 ≤ c then 0 else stg c
theorem nrm_keep {q : Nat} {out W : List Nat} (h : wlv W < q) : nrm q out W = (out, W) := by
  cases W with
  | nil => rfl
  | cons c W =>
    unfold nrm
    have h : (if 14 ≤ c then 0 else stg c) < q := h
    rw [if_pos]
    by_cases e : 14 ≤ c
    · exact Or.inl e
    · rw [if_neg e] at h; exact Or.inr h
def ql (κ τ : Nat) : Nat := if κ = 1042 ∨ κ = 1047 then 6 else if κ = 1043 ∨ κ = 1045 then 5 else if (κ = 1060 ∨ κ = 1061) ∧ τ = 0 then 4 else if κ = 12 then 2 else if κ = 11 then 1 else 0
theorem ql_fin {κ τ : Nat} (h : ql κ τ ≤ 0) : fin0 κ τ := by
  unfold ql at h
  unfold fin0
  repeat (first | omega | split at h)
def SYe (kq : Nat → Nat) (off nv : Nat) (mo : Option (Bool × Nat)) (k : Nat) (out W T : List Nat) (r : rsx) : Prop := ∃ g, SY kq off nv g mo k out W T r
section SE
variable {kq : Nat → Nat} {off nv k m : Nat} {bb : Bool} {out W T : List Nat} {r : rsx}
theorem SYe.nt (h1 : kq k = 13) (h2 : m < 6) (h : SYe kq off nv (some (true, m + 1)) (k + 1) out (3 :: W) T r) : SYe kq off nv (some (true, m)) k out W T r := by
  obtain ⟨g, h⟩ := h
  exact ⟨g + 1, Or.inl ⟨rfl, h1, h2, h⟩⟩
theorem SYe.nt6 (h1 : kq k = 13) : SYe kq off nv (some (true, 6)) k out W T (.inl (2, k)) := ⟨1, Or.inr (Or.inl ⟨rfl, h1, rfl, rfl⟩)⟩
theorem SYe.br (h1 : kq k = 1040) (h2 : T.length < 6) (h : SYe kq off nv (some (true, 0)) (k + 1) out (14 :: W) (0 :: T) r) : SYe kq off nv (some (bb, m)) k out W T r := by
  obtain ⟨g, h⟩ := h
  exact ⟨g + 1, Or.inr (Or.inr (Or.inl ⟨h1, h2, h⟩))⟩
theorem SYe.br6 (h1 : kq k = 1040) (h2 : 6 ≤ T.length) : SYe kq off nv (some (bb, m)) k out W T (.inl (if kq (k + 1) < 25 ∨ kq (k + 1) = 31 ∨ kq (k + 1) = 1040 ∨ 10000 ≤ kq (k + 1) then 2 else 1, k + 1)) := ⟨1, Or.inr (Or.inr (Or.inr (Or.inl ⟨h1, h2, rfl⟩)))⟩
theorem SYe.nu (h1 : 10000 ≤ kq k) (h : SYe kq off nv none (k + 1) (out ++ [1, kq k - 10000]) W T r) : SYe kq off nv (some (bb, m)) k out W T r := by
  obtain ⟨g, h⟩ := h
  exact ⟨g + 1, Or.inr (Or.inr (Or.inr (Or.inr (Or.inl ⟨h1, h⟩))))⟩
theorem SYe.nl (h1 : kq k = 31) : SYe kq off nv (some (bb, m)) k out W T (.inl (2, k)) := ⟨1, Or.inr (Or.inr (Or.inr (Or.inr (Or.inr (Or.inl ⟨h1, rfl⟩)))))⟩
theorem SYe.wo (h1 : 14 + off ≤ kq k) (h2 : kq k < 14 + off + nv) (h : SYe kq off nv none (k + 1) (out ++ [2, kq k - 14]) W T r) : SYe kq off nv (some (bb, m)) k out W T r := by
  obtain ⟨g, h⟩ := h
  exact ⟨g + 1, Or.inr (Or.inr (Or.inr (Or.inr (Or.inr (Or.inr (Or.inl ⟨h1, h2, h⟩))))))⟩
theorem SYe.wx (h1 : kq k < 25) (h2 : ¬ (14 + off ≤ kq k ∧ kq k < 14 + off + nv)) (h3 : bb = true → kq k ≠ 13) : SYe kq off nv (some (bb, m)) k out W T (.inl (3, k)) := ⟨1, Or.inr (Or.inr (Or.inr (Or.inr (Or.inr (Or.inr (Or.inr (Or.inl ⟨h1, h2, h3, rfl⟩)))))))⟩
theorem SYe.ot (h1 : 25 ≤ kq k) (h2 : kq k ≠ 31) (h3 : kq k ≠ 1040) (h4 : kq k < 10000) : SYe kq off nv (some (bb, m)) k out W T (.inl (1, k)) := ⟨1, Or.inr (Or.inr (Or.inr (Or.inr (Or.inr (Or.inr (Or.inr (Or.inr ⟨h1, h2, h3, h4, rfl⟩)))))))⟩
theorem SYe.ao {q c τ : Nat} (h1 : kq k = 12 ∧ q = 2 ∧ c = 4 ∨ kq k = 11 ∧ q = 1 ∧ c = 5) (hw : wlv W < q) (h : SYe kq off nv (some (true, 0)) (k + 1) out (c :: W) (0 :: T) r) : SYe kq off nv none k out W (τ :: T) r := by
  obtain ⟨g, h⟩ := h
  exact ⟨g + 1, Or.inl ⟨q, c, τ, T, rfl, h1, by rw [nrm_keep hw]; exact h⟩⟩
theorem SYe.ls {c : Nat} (h1 : kq k = 1060 ∧ c = 6 ∨ kq k = 1061 ∧ c = 7) (hw : wlv W < 4) (h : SYe kq off nv (some (false, 0)) (k + 1) out (c :: W) (1 :: T) r) : SYe kq off nv none k out W (0 :: T) r := by
  obtain ⟨g, h⟩ := h
  exact ⟨g + 1, Or.inr (Or.inl ⟨c, T, rfl, h1, by rw [nrm_keep hw]; exact h⟩)⟩
theorem SYe.pm {q c : Nat} (h1 : kq k = 1043 ∧ q = 5 ∧ c = 8 ∨ kq k = 1045 ∧ q = 5 ∧ c = 9 ∨ kq k = 1042 ∧ q = 6 ∧ c = 10 ∨ kq k = 1047 ∧ q = 6 ∧ c = 11) (hw : wlv W < q) (h : SYe kq off nv (some (false, 0)) (k + 1) out (c :: W) T r) : SYe kq off nv none k out W T r := by
  obtain ⟨g, h⟩ := h
  exact ⟨g + 1, Or.inr (Or.inr (Or.inl ⟨q, c, h1, by rw [nrm_keep hw]; exact h⟩))⟩
theorem SYe.cl {τ : Nat} (h1 : kq k = 1041) (hT : T ≠ []) (h : SYe kq off nv none (k + 1) out W T r) : SYe kq off nv none k out (14 :: W) (τ :: T) r := by
  obtain ⟨g, h⟩ := h
  have e : nrm 0 out (14 :: W) = (out, 14 :: W) := by unfold nrm; rw [if_pos (by omega)]
  exact ⟨g + 1, Or.inr (Or.inr (Or.inr (Or.inl ⟨τ, T, 14, W, rfl, h1, by rw [e], hT, by rw [e]; exact h⟩)))⟩
theorem SYe.en1 {τ : Nat} (h1 : fin0 (kq k) τ) (h2 : kq k ≠ 1041) (hT : T ≠ []) : SYe kq off nv none k out W (τ :: T) (.inl (1, k)) := ⟨1, Or.inr (Or.inr (Or.inr (Or.inr (Or.inl ⟨τ, T, rfl, h1, fun z => absurd z h2, hT, rfl⟩))))⟩
theorem SYe.en0 {τ : Nat} (h1 : fin0 (kq k) τ) : SYe kq off nv none k out [] [τ] (.inr (k, out ++ [0])) := ⟨1, Or.inr (Or.inr (Or.inr (Or.inr (Or.inr ⟨τ, rfl, h1, (fun _ c hc => by cases hc), rfl⟩))))⟩
/-- an operator that the next token would drop may be dropped at once -/
theorem SYe.norm {τ c : Nat} (hc : c < 14) (hq : ql (kq k) τ ≤ stg c) (h : SYe kq off nv none k (out ++ [c]) W (τ :: T) r) : SYe kq off nv none k out (c :: W) (τ :: T) r := by
  obtain ⟨g, h⟩ := h
  cases g with
  | zero => exact absurd h (by unfold SY; exact id)
  | succ g =>
    have e : ∀ q, q ≤ stg c → nrm q out (c :: W) = nrm q (out ++ [c]) W := fun q hq => by
      show (if 14 ≤ c ∨ stg c < q then _ else _) = _
      rw [if_neg (by omega)]
    refine ⟨g + 1, ?_⟩
    unfold ql at hq
    rcases h with ⟨q, d, σ, T', h0, h1, h3⟩ | ⟨d, T', h0, h1, h3⟩ | ⟨q, d, h1, h3⟩ | ⟨σ, T', o, W', h0, h1, h2, h4, h3⟩ | ⟨σ, T', h0, h1, h2, h4, h5⟩ | ⟨σ, h0, h1, h2, h5⟩
    · refine Or.inl ⟨q, d, σ, T', h0, h1, ?_⟩
      rw [e q (by rcases h1 with ⟨z, rfl, -⟩ | ⟨z, rfl, -⟩ <;> rw [z] at hq <;> exact hq)]
      exact h3
    · refine Or.inr (Or.inl ⟨d, T', h0, h1, ?_⟩)
      cases h0
      rw [e 4 (by rcases h1 with ⟨z, -⟩ | ⟨z, -⟩ <;> rw [z] at hq <;> exact hq)]
      exact h3
    · refine Or.inr (Or.inr (Or.inl ⟨q, d, h1, ?_⟩))
      rw [e q (by rcases h1 with ⟨z, rfl, -⟩ | ⟨z, rfl, -⟩ | ⟨z, rfl, -⟩ | ⟨z, rfl, -⟩ <;> rw [z] at hq <;> exact hq)]
      exact h3
    · refine Or.inr (Or.inr (Or.inr (Or.inl ⟨σ, T', o, W', h0, h1, ?_, h4, ?_⟩)))
      · rw [e 0 (by omega)]; exact h2
      · rw [e 0 (by omega)]; exact h3
    · exact Or.inr (Or.inr (Or.inr (Or.inr (Or.inl ⟨σ, T', h0, h1, fun z d hd => by rcases List.mem_cons.mp hd with y | y; omega; exact h2 z d y, h4, h5⟩))))
    · exact Or.inr (Or.inr (Or.inr (Or.inr (Or.inr ⟨σ, h0, h1, fun z d hd => by rcases List.mem_cons.mp hd with y | y; omega; exact h2 z d y, by rw [e 0 (by omega)]; exact h5⟩))))
end SE
