/-! ===== printed by wip/gen/emit_start.py: what holds at the law's start ===== -/
def st_tw (i : Nat) (w : Cond) : Bool := match lw_tbl[i]? with | some v => decide (v = w) | none => false
theorem st_tw_in {i : Nat} {w : Cond} (h : st_tw i w = true) : w ∈ lw_tbl := by
  unfold st_tw at h
  cases hv : lw_tbl[i]? with
  | none => rw [hv] at h; cases h
  | some v =>
    rw [hv] at h
    have e := of_decide_eq_true h
    subst e
    exact List.mem_of_getElem? hv
def st_tws : List Nat → List Cond → Bool
  | [], [] => true
  | i :: is, w :: ws => st_tw i w && st_tws is ws
  | _, _ => false
theorem st_tws_in : ∀ {is : List Nat} {ws : List Cond}, st_tws is ws = true → ∀ w ∈ ws, w ∈ lw_tbl
  | [], [], _, w, h => by cases h
  | i :: is, v :: ws, hs, w, h => by
    simp only [st_tws, Bool.and_eq_true] at hs
    rcases List.mem_cons.mp h with rfl | h
    · exact st_tw_in hs.1
    · exact st_tws_in hs.2 w h
  | [], _ :: _, hs, _, _ => by cases hs
  | _ :: _, [], hs, _, _ => by cases hs
/-- words that follow one another in a list -/
def st_sub : List Cond → List Cond → Bool
  | [], _ => true
  | _ :: _, [] => false
  | w :: ws, v :: vs => if w = v then st_sub ws vs else st_sub (w :: ws) vs
theorem st_sub_in : ∀ {vs ws : List Cond}, st_sub ws vs = true → ∀ w ∈ ws, w ∈ vs
  | _, [], _, w, h => by cases h
  | [], _ :: _, hs, _, _ => by cases hs
  | v :: vs, u :: ws, hs, w, h => by
    unfold st_sub at hs
    split at hs
    · rename_i e
      subst e
      rcases List.mem_cons.mp h with rfl | h
      · exact List.mem_cons_self
      · exact List.mem_cons_of_mem _ (st_sub_in hs w h)
    · exact List.mem_cons_of_mem _ (st_sub_in hs w h)
def st_str : Term := .string "ValleyMass$Tape" 67
def st_val : Term := .field st_str "java/lang/String" "value" "[B"
def st_W : List Cond := [.isRef (.static Bundle.tN "UNASSIGNED_STACK" Bundle.steD), .isRef (.static Bundle.tN "SUPPRESSED_SENTINEL" Bundle.listD), .eq (.static "java/lang/String" "COMPACT_STRINGS" "Z") (.int 1), .isRef (.static "jdk/internal/util/Preconditions" "SIOOBE_FORMATTER" "Ljava/util/function/BiFunction;"), .not (.castable "java/lang/IllegalArgumentException" "java/util/NoSuchElementException"), .exactly st_str "java/lang/String", .eq (.field st_str "java/lang/String" "coder" "B") (.int 0), .arrayOf st_val .byte, .eq (.length st_val) (.int (Int32.ofNat 130))]
def st_el (j : Nat) : Cond := .eq (.elem st_val (.int (Int32.ofNat j))) (.int (sm_byt.getD j 0))
set_option maxRecDepth 100000 in
theorem st_Wk : st_sub (st_W ++ (List.range 130).map st_el) (flatC (Jvm.Cond.and given_1 narrow_1)) = true := by decide +kernel
set_option maxRecDepth 100000 in
theorem st_Xk : st_sub (sm_ss.map fun q => .exactly (.string q.1 q.2.1) "java/lang/String") (flatC (Jvm.Cond.and given_1 narrow_1)) = true := by decide +kernel
set_option maxRecDepth 100000 in
theorem st_Sk : st_tws [620, 904, 922, 927, 943, 948, 949, 1049, 1050, 1071, 1088, 1107, 1119, 1120, 1144, 1145, 1161, 1207, 1215, 1227, 1261] (sm_ss.map fun q => .stringRef q.1 q.2.1 q.2.2) = true := by decide +kernel
set_option maxRecDepth 100000 in
theorem st_Nk : st_tws [128, 134, 187, 193, 253, 256, 262] (cz_nests.map fun q => .methodLinkNest q.1 q.2.1 q.2.2 "ValleyMass") = true := by decide +kernel
set_option maxRecDepth 100000 in
theorem st_Dk : st_tws [584, 586, 588] (sm_ds.map fun q => .declares q) = true := by decide +kernel
set_option maxRecDepth 100000 in
theorem st_Ck : st_tws [582, 897] (sm_cs.map fun q => .castable q.1 q.2) = true := by decide +kernel
set_option maxRecDepth 100000 in
theorem st_Ik : st_tws [186, 127, 261, 192, 133, 255, 119, 1300] (sm_cls.map fun q => .instantiable q.1 q.2.2) = true := by decide +kernel
theorem st_S (t : Cond) {args : Array Value} {s : State} (hts : ∀ w ∈ lw_tbl, w.before args s = true) (i : Nat) (h : st_tw i t = true) : t.before args s = true := hts _ (st_tw_in h)
theorem st_nests {args : Array Value} {s : State} (hts : ∀ w ∈ lw_tbl, w.before args s = true) : cz_nw s := fun q hq => va_Nw.of rfl (hts _ (st_tws_in st_Nk _ (List.mem_map_of_mem hq)))
theorem st_snw {args : Array Value} {s : State} (hgv : (Jvm.Cond.and given_1 narrow_1).before args s = true) (hts : ∀ w ∈ lw_tbl, w.before args s = true) : sm_nw s := by
  refine ⟨fun q hq => ?_, fun x hx => va_Nw.of rfl (hts _ (st_tws_in st_Dk _ (List.mem_map_of_mem hx))), fun q hq => va_Nw.of rfl (hts _ (st_tws_in st_Ck _ (List.mem_map_of_mem hq))), fun q hq => ?_⟩
  · have h1 : (Cond.stringRef q.1 q.2.1 q.2.2).before args s = true := hts _ (st_tws_in st_Sk _ (List.mem_map_of_mem (f := fun q : String × Nat × String => Cond.stringRef q.1 q.2.1 q.2.2) hq))
    have h2 : (Cond.exactly (.string q.1 q.2.1) "java/lang/String").before args s = true := flat_of_before _ hgv _ (st_sub_in st_Xk _ (List.mem_map_of_mem (f := fun q : String × Nat × String => Cond.exactly (.string q.1 q.2.1) "java/lang/String") hq))
    obtain ⟨a, c, cA, kA, q1, -⟩ := Cond.exactly_spec (args := args) (first := s) (o := none) (s := s) (idx := []) (t := .string q.1 q.2.1) (cls := "java/lang/String") h2
    exact ⟨a, vk_R.of h1 q1⟩
  · rw [sm_ncs, List.mem_singleton] at hq
    subst hq
    exact va_Nc.of (flat_of_before _ hgv _ (st_sub_in st_Wk _ (List.mem_append_left _ (List.mem_of_getElem? (i := 4) rfl))))
theorem ev_start {s : State} {b L : Nat} {xs : Nat → Int32} {A : Nat → Prop} (hgv : (Jvm.Cond.and given_1 narrow_1).before #[Value.ref b] s = true) (hts : ∀ w ∈ lw_tbl, w.before #[Value.ref b] s = true) (hX : va_X b L xs s s.heap) (hb : b < s.heap.size) (hA : ∀ a : Nat, a < s.heap.size → ¬ A a) : ∃ tx : Nat, ∀ ρ : Nat → Nat, ρ sm_SCR = b → ρ sm_STR = tx → sm_ev ρ (L, xs) A s s.heap := by
  have hw : ∀ (k : Nat) (w : Cond), st_W[k]? = some w → w.before #[Value.ref b] s = true := fun k w h => flat_of_before _ hgv _ (st_sub_in st_Wk _ (List.mem_append_left _ (List.mem_of_getElem? h)))
  have he : ∀ j : Nat, j < 130 → (st_el j).before #[Value.ref b] s = true := fun j h => flat_of_before _ hgv _ (st_sub_in st_Wk _ (List.mem_append_right _ (List.mem_map_of_mem (List.mem_range.mpr h))))
  have z1 : ∀ i : Nat, i < 1 → i = 0 := fun i h => by omega
  obtain ⟨adK, adV, hS, hE⟩ := vk_Sof (args := #[Value.ref b]) (s := s) (N := 1) (tm := fun _ => st_str) (len := [130]) (byt := [sm_byt]) (A := A)
    (fun i hi => by rw [z1 i hi]; decide) (fun i hi => hw 5 _ rfl) (fun i hi => hw 6 _ rfl) (fun i hi => hw 7 _ rfl) (fun i hi => by rw [z1 i hi]; exact hw 8 _ rfl)
    (fun i hi j hj => by rw [z1 i hi] at hj ⊢; simp only [List.getD_cons_zero] at hj ⊢; exact he j hj) (fun i j hi hj h => absurd ((z1 i hi).trans (z1 j hj).symm) h) hA
  refine ⟨adK 0, fun ρ h1 h2 => ?_⟩
  refine ⟨by rw [h1]; exact hX, by rw [h1]; exact hb, by rw [h1]; exact hA _ hb, vx_Zqof (st_S _ hts 607 (by decide +kernel)) (st_S _ hts 103 (by decide +kernel)) (hw 0 _ rfl) hA, vx_Zqof (st_S _ hts 609 (by decide +kernel)) (st_S _ hts 103 (by decide +kernel)) (hw 1 _ rfl) hA, st_snw hgv hts, ⟨"north south neutral soprano alto tenor bass piece every truce aim or and not day sung own other fallen can skill part singer tone ", ?_⟩, ⟨adV, ?_⟩, va_Zof (st_S _ hts 693 (by decide +kernel)) (st_S _ hts 108 (by decide +kernel)) (va_eqi (hw 2 _ rfl)) hA, va_Zqof (st_S _ hts 709 (by decide +kernel)) (st_S _ hts 110 (by decide +kernel)) (hw 3 _ rfl) hA⟩
  · rw [h2]; exact vk_R.of (st_S _ hts 683 (by decide +kernel)) (hE 0 (by omega))
  · refine ⟨fun i hi => ?_, fun i j hi hj _ => (z1 i hi).trans (z1 j hj).symm⟩
    rw [z1 i hi, h2]
    exact hS.1 0 (by omega)
theorem st_K {args : Array Value} {s : State} (hts : ∀ w ∈ lw_tbl, w.before args s = true) : ∃ (D : va_G) (cA : Nat → ClassId), va_K D sm_cls (sm_tys cA) s := by
  have hts2 : ∀ w ∈ sm_Ts, w.before args s = true := fun w hw => hts w (List.mem_filter.mp hw).1
  have h : ∀ c : Nat, ∃ q : ClassId × (Nat → Nat), ∀ r : vw_C, sm_cls[c]? = some r → u_Kn s r.1 r.2.1 r.2.2 q.1 q.2 := by
    intro c
    cases hc : sm_cls[c]? with
    | none => exact ⟨(0, fun _ => 0), fun r h => by cases h⟩
    | some r =>
      obtain ⟨C, T, N⟩ := r
      have hcw : sm_cwB c = true := sm_cw_at (at_lt hc)
      unfold sm_cwB at hcw
      rw [hc] at hcw
      simp only [Bool.and_eq_true] at hcw
      obtain ⟨cC, iS, hk⟩ := u_known (C := C) (T := T) (N := N) (n := N) hts2 (sm_wds_in hcw.1.1) (hts _ (st_tws_in st_Ik _ (List.mem_map_of_mem (f := fun q : vw_C => Cond.instantiable q.1 q.2.2) (List.mem_of_getElem? hc))))
      exact ⟨(cC, iS), fun r h => by cases h; exact hk⟩
  obtain ⟨f, hf⟩ := Classical.axiomOfChoice h
  obtain ⟨c0, k0, p0, a1, a2, a3⟩ := Cond.arrayClass_spec (args := args) (first := s) (o := none) (s := s) (idx := []) (type := .int) (st_S _ hts 158 (by decide +kernel))
  obtain ⟨c1, k1, p1, b1, b2, b3⟩ := Cond.arrayClass_spec (args := args) (first := s) (o := none) (s := s) (idx := []) (type := .boolean) (st_S _ hts 1495 (by decide +kernel))
  obtain ⟨c2, k2, p2, d1, d2, d3⟩ := Cond.arrayClass_spec (args := args) (first := s) (o := none) (s := s) (idx := []) (type := .long) (st_S _ hts 1934 (by decide +kernel))
  refine ⟨(fun c => (f c).1, fun c => (f c).2), fun k => if k = 0 then c0 else if k = 1 then c1 else c2, fun c r hc => hf c r hc, fun k q hq => ?_⟩
  match k, hq with
  | 0, hq => cases hq; exact ⟨fun n z => ⟨fun k h => (by cases h), k0, a2, p0, a3⟩, a1⟩
  | 1, hq => cases hq; exact ⟨fun n z => ⟨fun k h => (by cases h), k1, b2, p1, b3⟩, b1⟩
  | 2, hq => cases hq; exact ⟨fun n z => ⟨fun k h => (by cases h), k2, d2, p2, d3⟩, d1⟩
  | k + 3, hq => cases hq
