/-! ===== a call, an end, a throw, over the machine ===== -/
theorem sp_cl {call : sm_K} {hs : List (Nat × Nat × Nat × Nat × Nat)} {pc0 : Nat} {Q : sm_Q} {Y : sm_F → sm_M → Prop} {M0 M : sm_M} {pc : Nat} {L : sm_L} {st : List Value} {nc ns : Nat} {sh : List (Nat × Nat)} {B : Nat × Nat} {a b c : Nat} {t : List Nat} (h1 : c ≠ 1) (h2 : c ≠ 2) (h3 : c ≠ 3)
    (h : sm_post call hs pc0 Q Y M0 (sm_cl sh B a b c t pc L st nc ns M)) : b ≤ st.length ∧ ((st.drop b).map fun v => v.category).sum ≤ 8 ∧ nc + t.getD 0 0 ≤ B.1 ∧ ns + t.getD 1 0 ≤ B.2 ∧ (c = 0 ∨ ∃ k As ci N, (st.take b).reverse = .ref k :: As ∧ sh[k]? = some (ci, N) ∧ ci + 10 = c) ∧
      call a (st.take b).reverse M0 (sm_af hs pc0 Q Y (pc + 1, L, st.drop b, nc + t.getD 0 0, ns + t.getD 1 0)) := by
  unfold sm_cl at h
  split at h
  · exact absurd rfl h1
  · exact absurd rfl h2
  · exact absurd rfl h3
  · simp only [cond_eq_ite] at h
    split at h
    · rename_i hc
      simp only [Bool.and_eq_true] at hc
      obtain ⟨⟨⟨⟨c1, c2⟩, c3⟩, c4⟩, c5⟩ := hc
      refine ⟨Nat.le_of_ble_eq_true c1, Nat.le_of_ble_eq_true c2, Nat.le_of_ble_eq_true c3, Nat.le_of_ble_eq_true c4, ?_, h.2⟩
      unfold sm_rcv at c5
      split at c5
      · exact Or.inl rfl
      · rename_i k As hne e z1 z2 z3
        split at c5
        · rename_i ci N e2
          exact Or.inr ⟨k, As, ci, N, e, e2, Nat.eq_of_beq_eq_true c5⟩
        · cases c5
      · cases c5
    · exact h.elim
theorem sp_cls1 {call : sm_K} {hs : List (Nat × Nat × Nat × Nat × Nat)} {pc0 : Nat} {Q : sm_Q} {Y : sm_F → sm_M → Prop} {M0 M : sm_M} {pc : Nat} {L : sm_L} {st : List Value} {nc ns : Nat} {sh : List (Nat × Nat)} {B : Nat × Nat} {a b : Nat} {t : List Nat}
    (h : sm_post call hs pc0 Q Y M0 (sm_cl sh B a b 1 t pc L st nc ns M)) : ∃ st', st = .ref sm_STR :: st' ∧ (st'.map fun v => v.category).sum ≤ 8 ∧ nc ≤ B.1 ∧ ns ≤ B.2 ∧ Y (pc + 1, L, .int (Int32.ofNat 130) :: st', nc, ns) M := by
  simp only [sm_cl] at h
  split at h
  · rename_i k st'
    simp only [cond_eq_ite] at h
    split at h
    · rename_i hc
      simp only [Bool.and_eq_true] at hc
      have e := Nat.eq_of_beq_eq_true hc.1.1.1
      subst e
      exact ⟨st', rfl, Nat.le_of_ble_eq_true hc.1.1.2, Nat.le_of_ble_eq_true hc.1.2, Nat.le_of_ble_eq_true hc.2, sp_go h⟩
    · exact h.elim
  · exact h.elim
theorem sp_cls2 {call : sm_K} {hs : List (Nat × Nat × Nat × Nat × Nat)} {pc0 : Nat} {Q : sm_Q} {Y : sm_F → sm_M → Prop} {M0 M : sm_M} {pc : Nat} {L : sm_L} {st : List Value} {nc ns : Nat} {sh : List (Nat × Nat)} {B : Nat × Nat} {a b : Nat} {t : List Nat}
    (h : sm_post call hs pc0 Q Y M0 (sm_cl sh B a b 2 t pc L st nc ns M)) : ∃ i st', st = .int i :: .ref sm_STR :: st' ∧ (st'.map fun v => v.category).sum ≤ 8 ∧ nc ≤ B.1 ∧ ns ≤ B.2 ∧ sm_in i 130 = true ∧ Y (pc + 1, L, .int (Int32.ofNat (sm_text.getD i.toNatClampNeg 0)) :: st', nc, ns) M := by
  simp only [sm_cl] at h
  split at h
  · rename_i i k st'
    simp only [cond_eq_ite] at h
    split at h
    · rename_i hc
      simp only [Bool.and_eq_true] at hc
      have e := Nat.eq_of_beq_eq_true hc.1.1.1
      subst e
      exact ⟨i, st', rfl, Nat.le_of_ble_eq_true hc.1.1.2, Nat.le_of_ble_eq_true hc.1.2, Nat.le_of_ble_eq_true hc.2, sp_gd h⟩
    · exact h.elim
  · exact h.elim
theorem sm_cat_map (ρ : Nat → Nat) (st : List Value) : ((st.map (sm_v ρ)).map fun v => v.category).sum = (st.map fun v => v.category).sum := by
  rw [List.map_map, show ((fun v : Value => v.category) ∘ sm_v ρ) = fun v => v.category from funext fun v => sm_v_cat ρ v]
section SCC
variable {p : Program} {l : Launch} {e : Env} {R : Room} {s : State} {m : MethodId} {args : Array Value} {below : List Frame} {meth : Method} {c : Code} {Qf : State → Prop} {D : va_G} {A : Nat → Prop} {sh : List (Nat × Nat)} {cA : Nat → ClassId} {ρ : Nat → Nat} {nL : Nat}
variable {cc : ByteArray} {L : sm_L} {st : List Value} {nc ns : Nat} {M : sm_M}
set_option maxHeartbeats 2000000 in
/-- a call of one of the program's own methods -/
theorem sm_closeC {own : String} {Ts : List Cond} {code : List sm_E} {X : Nat × (Nat → Int32)} {B : Nat × Nat} {call : sm_K} {hs : List (Nat × Nat × Nat × Nat × Nat)} {pc : Nat} {Q : sm_Q} {P : List sm_Me} {N : List sm_In} {d bp idx a b cN : Nat} {t : List Nat} {virt : Bool}
    (hx : p.tables.exec = Jvm.exec) (hb : c.code = cc) (hml : c.maxLocals = nL) (hts : ∀ w ∈ Ts, w.before args s = true) (hgood : Ts.all goodWord = true) (ho : s.vm.findClass own = some m.cls) (hK : va_K D sm_cls (sm_tys cA) s)
    (hev : sm_ev ρ X (sm_A sh ρ s.heap.size) s s.heap) (hR : 61 + d ≤ R.frames ∧ 1060 + 60 * d ≤ R.locals) (hRc : R.cells = B.1 ∧ R.slots = B.2)
    (hcall : ∀ y as M Q', call y as M Q' → sm_Mt l Ts P N sh X d y as M Q')
    (hcx : ∀ (n nc' ns' : Nat) (L : sm_L) (M' : sm_M) (H1 : Heap) (locs1 : List Loc) (ls : Array Slot) (rest : List Value) (q : Addr) (ce : Cell), n ≤ 1 → sm_af hs pc Q (sm_YY p l e R s m args below meth c Qf D (sm_A sh ρ s.heap.size) sh cA ρ nL code) (pc + 1, L, rest, nc', ns') (.inr n) M' → sm_Rl D (sm_A sh ρ s.heap.size) sh cA ρ s.heap M' H1 locs1 → sm_has ls nL ρ L → H1[q]? = some ce → ce.vm = .none → s.vm.findClass (sm_xn n) = some ce.cls → nc' ≤ B.1 → ns' ≤ B.2 →
      vx_W p l e R s m args below meth c H1 locs1 nc' ns' Qf (F0 m bp ls (rest.map (sm_v ρ))) q)
    (hi : sm_iok Ts P N own idx a b cN t virt) (hd : decode cc bp = .ok (if virt = true then .invokevirtual idx else .invokestatic idx, 3)) (hn : ∃ e1 : sm_E, code[pc + 1]? = some e1 ∧ e1.2.1 = bp + 3)
    (h : sm_post call hs pc Q (sm_YY p l e R s m args below meth c Qf D (sm_A sh ρ s.heap.size) sh cA ρ nL code) M (sm_cl sh B a b cN t pc L st nc ns M)) :
    sm_Z p l e R s m args below meth c Qf D (sm_A sh ρ s.heap.size) sh cA ρ nL bp L st nc ns M := by
  obtain ⟨me, nm, bytes, ret, hh, hP, hN, ht0, ht1, hmx, hlk, hin, hne, hcw, hcase⟩ := hi
  have hc123 : cN ≠ 1 ∧ cN ≠ 2 ∧ cN ≠ 3 := by
    rcases hcase with ⟨-, rfl, -⟩ | ⟨-, -, ⟨ci, T, n, rfl, -, -⟩, -⟩ <;> omega
  obtain ⟨g1, g2, g3, g4, g5, g6⟩ := sp_cl hc123.1 hc123.2.1 hc123.2.2 h
  have hMt := hcall _ _ _ _ g6 me nm bytes ret hh hP hN D cA ρ
  rw [ht0] at g3
  rw [ht1] at g4
  rw [ht0, ht1] at hMt
  intro H locs ls hRl hl
  obtain ⟨hP1, hD1, hS1⟩ := hRl
  have hGI : GoodIn Ts (sm_cw nm bytes me.2.2.2 ret hh :: Ts) := by
    intro w hw
    have hw2 : w ∈ Ts := by
      rcases List.mem_cons.mp hw with rfl | h2
      · exact hcw
      · exact h2
    exact ⟨hw2, good_of_word (List.all_eq_true.mp hgood w hw2)⟩
  have hA1 : ∀ q, sm_A sh ρ H.size q → sm_A sh ρ s.heap.size q := fun q hq => by
    rcases hq with hq | hq
    · exact Or.inl hq
    · exact Or.inr (Nat.le_trans hS1.1 hq)
  have hPc : ∀ U : State, U.heap = H → s.WarmedH U.vm → sm_Pc sh X D cA ρ H.size (st.take b).reverse M (((st.take b).reverse).map (sm_v ρ)).toArray U := by
    intro U hU hW
    refine ⟨rfl, by rw [hU], by rw [hU]; exact hP1, sm_D_any hD1 (fun _ _ => trivial), va_K.moved hW.alike hK, ?_⟩
    rw [hU]
    exact sm_ev.warm hW ((hev.kept hS1.1 hS1.2.1).narrow hA1)
  have hwords : 2 * (F0 m bp ls (st.map (sm_v ρ))).monitorRoom + (((st.drop b).map (sm_v ρ)).map fun v => v.category).sum ≤ 8 := lv_room (by rw [sm_cat_map]; exact g2)
  have hroom : (sm_rm d me.2.1).frames + 1 ≤ R.frames ∧ 8 + (me.2.2.2 + 11) + (sm_rm d me.2.1).locals ≤ R.locals := by
    simp only [sm_rm]
    omega
  have hfit : nc + me.2.1.1 ≤ R.cells ∧ ns + me.2.1.2 ≤ R.slots := by rw [hRc.1, hRc.2]; exact ⟨g3, g4⟩
  have hparam : ∀ n, (parseMethodDescriptor nm.desc).map (fun d => d.parameters.length) = some n → ∀ sig, parseMethodDescriptor nm.desc = some sig → n = sig.parameters.length := by
    intro n hn sig hsig
    rw [hsig] at hn
    exact (Option.some.inj hn).symm
  have hsplit : st.map (sm_v ρ) = (((st.take b).reverse).map (sm_v ρ)).reverse ++ (st.drop b).map (sm_v ρ) := by
    rw [List.map_reverse, List.reverse_reverse, ← List.map_append, List.take_append_drop]
  have hlenb : ((st.take b).reverse).length = b := by rw [List.length_reverse, List.length_take]; omega
  have back : ∀ aa, vx_Run p l e R s m args below meth c H locs nc ns me.2.1.1 me.2.1.2 (F0 m bp ls (st.map (sm_v ρ))) ((st.drop b).map (sm_v ρ)) (sm_Qc sh D cA ρ (sm_af hs pc Q (sm_YY p l e R s m args below meth c Qf D (sm_A sh ρ s.heap.size) sh cA ρ nL code) (pc + 1, L, st.drop b, nc + me.2.1.1, ns + me.2.1.2)) (sm_A sh ρ H.size) aa) (sm_XC sh D cA ρ (sm_af hs pc Q (sm_YY p l e R s m args below meth c Qf D (sm_A sh ρ s.heap.size) sh cA ρ nL code) (pc + 1, L, st.drop b, nc + me.2.1.1, ns + me.2.1.2)) (sm_A sh ρ H.size)) (sm_A sh ρ H.size) →
      W p l e R s m args below meth c H locs nc ns Qf (F0 m bp ls (st.map (sm_v ρ))) := by
    intro aa hr
    refine sm_back (M := M) hr hS1 hD1 hA1 (fun v M' H1 locs1 hq hRl1 => ?_) (fun n M' H1 locs1 q ce hn1 hq hRl1 hce hcv hcl => ?_)
    · obtain ⟨e1, z1, z2⟩ := hn
      have hY : sm_YY p l e R s m args below meth c Qf D (sm_A sh ρ s.heap.size) sh cA ρ nL code (pc + 1, L, v.toList ++ st.drop b, nc + me.2.1.1, ns + me.2.1.2) M' := by
        exact hq
      have := hY e1 z1 H1 locs1 ls hRl1 hl
      rw [z2] at this
      exact this
    · exact hcx n _ _ L M' H1 locs1 ls (st.drop b) q ce hn1 hq hRl1 hl hce hcv hcl g3 g4
  rcases hcase with ⟨rfl, rfl, hst, hpar⟩ | ⟨rfl, rfl, ⟨ci, T, n, rfl, hc8, hcls⟩, hinst, hsel, hpar⟩
  · cases hh with
    | nil =>
      refine back _ (vx_runS (Ts := Ts) (bytes := bytes) (maxL := me.2.2.2) (ret := ret) (n := b) ⟨hx, hb, hml, ho, hts⟩ (hMt H.size)
        ⟨⟨rfl, rfl, hroom.1, hroom.2, pay_in hts hGI, List.mem_cons_self, hts _ hcw, hts _ hin, hne, hparam b hpar, hts _ hlk⟩, hts _ hst⟩
        ⟨sm_Pc.blind, hPc⟩ rfl (by rw [List.length_map, hlenb]) hl.1 hsplit hwords hd hfit)
    | cons h0 hr =>
      refine back _ (vx_runSX (Ts := Ts) (bytes := bytes) (maxL := me.2.2.2) (ret := ret) (n := b) (hh := h0 :: hr) ⟨hx, hb, hml, ho, hts⟩ (hMt H.size)
        ⟨⟨rfl, rfl, hroom.1, hroom.2, pay_in hts hGI, List.mem_cons_self⟩, hts _ hcw, hts _ hin, hne, hparam b hpar, hts _ hlk, hts _ hst⟩
        ⟨sm_Pc.blind, hPc⟩ rfl (by rw [List.length_map, hlenb]) hl.1 hsplit hwords hd hfit)
  · rcases g5 with g5 | ⟨k, As, ci2, N2, hAs, hsk, hci⟩
    · omega
    · have hci3 : ci2 = ci := by omega
      subst hci3
      have he : (sm_ws sh cA ρ M)[k]? = some (ρ k, .inr (ci2, sm_fv ρ M k (sm_fk.getD ci2 []))) := by rw [sm_ws_at hsk, sm_cell_obj hc8]
      have hpar2 : (parseMethodDescriptor nm.desc).map (fun d => d.parameters.length) = some As.length := by
        have hb2 : As.length + 1 = b := by rw [← hlenb, hAs]; rfl
        cases hd2 : parseMethodDescriptor nm.desc with
        | none => rw [hd2] at hpar; simp at hpar
        | some sig =>
          rw [hd2] at hpar
          simp at hpar ⊢
          omega
      have hAm : (((st.take b).reverse).map (sm_v ρ)) = .ref (ρ k) :: As.map (sm_v ρ) := by rw [hAs]; rfl
      have hPc2 := hPc
      rw [hAm] at hPc2
      have hrun := vx_runV (e := e) (below := below) (meth := meth) (locs := locs) (cells := nc) (slots := ns) (Ts := Ts) (C := nm.cls) (bytes := bytes) (maxL := me.2.2.2) (ret := ret) (n := As.length) (b := ρ k) (As := As.map (sm_v ρ)) (g := F0 m bp ls (st.map (sm_v ρ))) (rest := (st.drop b).map (sm_v ρ)) ⟨hx, hb, hml, ho, hts⟩ (hMt H.size)
        ⟨⟨rfl, rfl, hroom.1, hroom.2, pay_in hts hGI, List.mem_cons_self, hts _ hcw, hts _ hin, hne, hparam _ hpar2, hts _ hlk⟩, hts _ hinst, hts _ hsel⟩
        ⟨sm_Pc.blind, va_recv hK hP1 (q := (nm.cls, T, n)) hcls he, hPc2⟩ rfl (by rw [List.length_map]) hl.1 (by
          show st.map (sm_v ρ) = _
          rw [hsplit, hAm, List.reverse_cons, List.append_assoc]; rfl) hwords hd hfit
      exact back _ hrun
end SCC
