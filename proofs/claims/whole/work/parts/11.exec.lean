theorem q_okM_of {a : Nat} (ha : a < 205) : (q_w (q_nu a 7) = some (.code (q_mi a).1 (q_mi a).2.1 (q_mi a).2.2.1 (q_mi a).2.2.2)) ∧ q_w (q_nu a 8) = some (.initialized (q_mi a).1.cls) ∧
    ((q_mi a).1.cls ≠ "java/lang/invoke/MethodHandle" ∧ (q_mi a).1.cls ≠ "java/lang/invoke/VarHandle") ∧ plainName (q_mi a).1.cls = true ∧
    (q_nu a 0 = 0 → q_w (q_nu a 10) = some (.static (q_mi a).1) ∧ (parseMethodDescriptor (q_mi a).1.desc).map (fun d => d.parameters.length) = some (q_nu a 2)) ∧
    (q_nu a 0 ≠ 0 → q_w (q_nu a 9) = some (.instanceMethod (q_mi a).1) ∧ 0 < q_nu a 2 ∧ (parseMethodDescriptor (q_mi a).1.desc).map (fun d => d.parameters.length) = some (q_nu a 2 - 1)) ∧
    (q_nu a 0 = 1 → q_w (q_nu a 10) = some (.selects (q_mi a).1.cls (q_mi a).1 (q_mi a).1) ∧ (vwCl[q_nu a 1]?).map (fun q => q.1) = some (q_mi a).1.cls) ∧
    (q_nu a 0 = 2 → (q_mi a).1.name = "<init>" ∧ (q_mi a).2.2.2 = none) := by
  have h := q_okM_all a ha
  simp only [q_okM, Bool.and_eq_true, decide_eq_true_eq] at h
  obtain ⟨h1, h2, h3, h4, h5⟩ := h
  refine ⟨h1, h2, h3, h4, fun q => ?_, fun q => ?_, fun q => ?_, fun q => ?_⟩
  · rw [q] at h5
    simpa using h5
  · have q' : Nat.beq (q_nu a 0) 0 = false := by
      cases hb : Nat.beq (q_nu a 0) 0 with
      | false => rfl
      | true => exact absurd (Nat.eq_of_beq_eq_true hb) q
    rw [q'] at h5
    simp only [cond_false, Bool.and_eq_true, decide_eq_true_eq, Nat.blt_eq] at h5
    exact ⟨h5.1, h5.2.1, h5.2.2.1⟩
  · rw [q] at h5
    simp only [show Nat.beq 1 0 = false from rfl, show Nat.beq 1 1 = true from rfl, cond_false, cond_true, Bool.and_eq_true, decide_eq_true_eq] at h5
    exact h5.2.2.2
  · rw [q] at h5
    simp only [show Nat.beq 2 0 = false from rfl, show Nat.beq 2 1 = false from rfl, cond_false, cond_true, Bool.and_eq_true, decide_eq_true_eq] at h5
    exact h5.2.2.2
/-! the entry -/
theorem q_lay_len (base b : Nat) : ∀ as : List Value, (lg_sl (as.map (q_cv base b))).length = (q_lay as).length
  | [] => rfl
  | v :: r => by
    have ih := q_lay_len base b r
    simp only [lg_sl, List.map_cons, List.flatMap_cons, List.length_append, q_lay] at ih ⊢
    rw [ih, q_cv_cat]
    rcases lv_cat v with h | h
    · rw [h]; simp [show Nat.beq 1 2 = false from rfl, Nat.add_comm]
    · rw [h]; simp [show Nat.beq 2 2 = true from rfl]; omega
theorem q_lay_mem (base b : Nat) : ∀ (as : List Value) (o i : Nat) (v : Value), (q_lay as)[i]? = some (some v) → (o + i, q_cv base b v) ∈ lv_args o (as.map (q_cv base b))
  | [], _, _, _, h => by simp [q_lay] at h
  | w :: r, o, i, v, h => by
    simp only [List.map_cons, lv_args, q_cv_cat]
    rcases lv_cat w with hc | hc
    · simp only [q_lay, hc, show Nat.beq 1 2 = false from rfl, cond_false] at h
      rw [if_neg (by omega)]
      cases i with
      | zero => simp only [List.getElem?_cons_zero, Option.some.injEq] at h; subst h; exact List.mem_cons_self
      | succ i =>
        rw [List.getElem?_cons_succ] at h
        have := q_lay_mem base b r (o + 1) i v h
        rw [show o + 1 + i = o + (i + 1) by omega] at this
        exact List.mem_cons_of_mem _ this
    · simp only [q_lay, hc, show Nat.beq 2 2 = true from rfl, cond_true] at h
      rw [if_pos hc]
      cases i with
      | zero => simp only [List.getElem?_cons_zero, Option.some.injEq] at h; subst h; exact List.mem_cons_self
      | succ i =>
        cases i with
        | zero => simp at h
        | succ i =>
          rw [List.getElem?_cons_succ, List.getElem?_cons_succ] at h
          have := q_lay_mem base b r (o + 2) i v h
          rw [show o + 2 + i = o + (i + 1 + 1) by omega] at this
          exact List.mem_cons_of_mem _ this
theorem q_L_entry {base b nL : Nat} {as : List Value} (h : (q_lay as).length ≤ nL) :
    q_L base b ((lg_sl (as.map (q_cv base b)) ++ List.replicate (nL - (lg_sl (as.map (q_cv base b))).length) Slot.unset).toArray) nL (q_lay as ++ List.replicate (nL - (q_lay as).length) none) := by
  have h1 := lv_entry (as.map (q_cv base b)) (n := nL) (by rw [q_lay_len]; exact h)
  refine ⟨h1.1, h1.2.1, by simp; omega, fun i v hv => ?_⟩
  by_cases hi : i < (q_lay as).length
  · rw [List.getElem?_append_left hi] at hv
    have := q_lay_mem base b as 0 i v hv
    rw [Nat.zero_add] at this
    exact h1.2.2 _ this
  · rw [List.getElem?_append_right (by omega), List.getElem?_replicate] at hv
    split at hv <;> cases hv
noncomputable def q_ws (k : Nat) : List Cond := .code (q_mi k).1 (q_mi k).2.1 (q_mi k).2.2.1 (q_mi k).2.2.2 :: q_tb
def q_Pc (G : q_G) (base b : Nat) (as : List Value) (mm : q_Mm) : Array Value → State → Prop := va_Pc (as.map (q_cv base b)) (fun U => q_R G base mm U.heap ∧ q_K G U)
def q_Qc (G : q_G) (base b : Nat) (r : Option Value) (mm : q_Mm) : Array Value → State → Outcome → State → Prop := fun _ st o t => o = .returned (r.map (q_cv base b)) ∧ q_R G base mm t.heap ∧ (∀ q : Nat, q < base → t.heap[q]? = st.heap[q]?) ∧ st.heap.size ≤ t.heap.size
theorem q_Pc_blind {G : q_G} {base b : Nat} {as : List Value} {mm : q_Mm} : FrameBlind (q_Pc G base b as mm) := fun _ _ _ _ h => ⟨h.1, h.2.1, h.2.2.calling⟩
/-- how an answer leaves -/
def q_rets (k : Nat) (ins : Instr) (r : Option Value) : Prop := (ins = .ireturn ∧ ∃ x, r = some (.int x) ∧ q_rok (q_mi k).2.2.2 x = true) ∨ (ins = .areturn ∧ ∃ q, r = some (.ref q)) ∨ (ins = .return_ ∧ r = none)
/-- a whole run, walked -/
def q_Snd (n : Nat) : Prop := ∀ (X : q_X) (k : Nat) (fr : q_Fr) (mm : q_Mm) (r : Option Value) (mm' : q_Mm), k ≤ 205 → q_exec n X k fr mm = some (r, mm') → ∀ {G : q_G} {base b : Nat} {p : Program} {l : Launch} {e : Env} {s : State} {m : MethodId} {args : Array Value} {below : List Frame} {meth : Method} {c : Code} {Q : State → Prop},
  q_C G base b X k p s m args meth c →
  (∀ (ent : q_Ent) (H : Heap) (locs : List Loc) (ls : Array Slot) (cu su : Nat), decode (q_mi k).2.1 ent.1 = .ok (ent.2.2.1, 1) → q_rets k ent.2.2.1 r → (ent.2.2.1 = .areturn → (q_mi k).2.2.2 = some (.object "ThrownMarks$Card")) → (ent.2.2.1 = .return_ → (q_mi k).2.2.2 = none) → q_R G base mm' H → q_H base s H locs → cu ≤ q_mc k → su ≤ q_ms k → W p l e (q_rm k) s m args below meth c H locs cu su Q (F0 m ent.1 ls (r.toList.map (q_cv base b)))) →
  q_W G base b k p l e s m args below meth c Q fr mm
theorem q_met {n k : Nat} (hk : k < 205) (hS : q_Snd n) {l : Launch} {as : List Value} {mm mm' : q_Mm} {r : Option Value} (h : q_exec n none k (q_ent k as) mm = some (r, mm')) (hl : (q_lay as).length ≤ (q_mi k).2.2.1) (G : q_G) (base b : Nat) :
    Met l (q_mi k).1 (q_ws k) (q_rm k) (q_Pc G base b as mm) (q_Qc G base b r mm') (q_mc k) (q_ms k) (fun q => base ≤ q) := by
  obtain ⟨-, -, -, hplain, -, -, -, -⟩ := q_okM_of hk
  refine Met.ofW (cc := (q_mi k).2.1) (maxL := (q_mi k).2.2.1) (ret := (q_mi k).2.2.2) hplain rfl ?_
  intro p e s m args below meth c s₁ B hml hv
  obtain ⟨rfl, hR, hK⟩ := hv
  have hts : ∀ w ∈ q_ws k, w.before (as.map (q_cv base b)).toArray s = true := atoms_spec (ws := q_ws k) B.pre
  have hr := B.returns
  have C : q_C G base b none k p s m (as.map (q_cv base b)).toArray meth c := ⟨B.exec, B.bytes, hml, findClass_of_methodNamed B.named, fun w hw => hts w (List.mem_cons_of_mem _ hw), fun hn => (name_of_methodNamed B.named B.method).1.trans hn, hK, by rw [hR.1]; omega, fun L xs hX => by cases hX⟩
  obtain ⟨e0, he0, hz⟩ := q_cd0 k (Nat.le_of_lt hk)
  rw [lg_entry_eq]
  have := hS none k (q_ent k as) mm r mm' (Nat.le_of_lt hk) h C (l := l) (e := e) (below := below) (Q := MQ below (q_Qc G base b r mm') (as.map (q_cv base b)).toArray s (q_mc k) (q_ms k) (fun q => base ≤ q)) ?_ e0 he0 s.heap [] _ hR ⟨fun _ _ => rfl, fun _ h => absurd h List.not_mem_nil, Nat.le_refl _⟩ (q_L_entry hl)
  · rw [hz] at this
    exact this
  · intro ent H locs ls cu su hd hrt ha hv hR' hH hcu hsu
    refine W.widen hcu hsu ?_
    have hq : ∀ t : State, t.heap = H → s.WarmedH t.vm → q_Qc G base b r mm' (as.map (q_cv base b)).toArray s (.returned (r.map (q_cv base b))) t := fun t ht _ => ⟨rfl, by rw [ht]; exact hR', fun q hq => by rw [ht]; exact hH.1 q hq, by rw [ht]; exact hH.2.2⟩
    have hlocks := B.notSynchronized
    rcases hrt with ⟨hi, x, rfl, hx⟩ | ⟨hi, q, rfl⟩ | ⟨hi, rfl⟩
    · rw [hi] at hd
      cases hrt : (q_mi k).2.2.2 with
      | none => rw [hrt] at hx; cases hx
      | some ty =>
        rw [hrt] at hr hx
        refine W.zret (ty := ty) B.exec B.bytes hr ?_ hq hH.2.1 hd hlocks
        revert hx
        cases ty <;> intro hx <;> first | rfl | cases hx | skip
        simp only [q_rok, Bool.or_eq_true, decide_eq_true_eq] at hx
        rcases hx with rfl | rfl <;> rfl
    · have hty := ha hi
      rw [hi] at hd
      exact W.aret (rt := .object "ThrownMarks$Card") B.exec B.bytes (hr.trans hty) (Or.inl ⟨_, rfl⟩) (Or.inr ⟨_, rfl⟩) hq hH.2.1 hd hlocks
    · have hty := hv hi
      rw [hi] at hd
      exact W.vret B.exec B.bytes (hr.trans hty) hq hH.2.1 hd hlocks
theorem q_tb_good : ∀ w ∈ q_tb, w ∈ q_tb ∧ ((w.onTables && w.keeps) = true ∨ ∃ ty, w = .arrayClass ty) := fun w hw => ⟨hw, good_of_word (List.mem_filter.mp hw).2⟩
section QE
variable {p : Program} {l : Launch} {e : Env} {s : State} {m : MethodId} {args : Array Value} {below : List Frame} {meth : Method} {c : Code} {Q : State → Prop} {R : Room} {H : Heap} {locs : List Loc} {cells slots : Nat}
variable {base b : Nat} {G : q_G} {X : q_X} {k : Nat} {pc : Nat} {ls : Array Slot}
/-- behind a call -/
theorem q_w_ret {mc ms : Nat} {st0 rest : List Value} {r : Option Value} {mm' : q_Mm} {a : Array Value} (hr : va_Run p l e R s m args below meth c H locs cells slots mc ms (F0 m pc ls st0) (rest.map (q_cv base b)) (q_Qc G base b r mm' a) (fun q => base ≤ q)) (hH : q_H base s H locs)
    (kk : ∀ H' locs', q_R G base mm' H' → q_H base s H' locs' → W p l e R s m args below meth c H' locs' (cells + mc) (slots + ms) Q (F0 m (pc + 3) ls ((r.toList ++ rest).map (q_cv base b)))) : W p l e R s m args below meth c H locs cells slots Q (F0 m pc ls st0) := by
  intro T hT X
  obtain ⟨v, st₀, t, T', L, h0, X', hL, e1, e2, ⟨hv, hR', hfr, hsz⟩, st⟩ := hr T hT X
  cases hv
  obtain ⟨t2, a1, b1⟩ := kk t.heap (locs ++ L) hR' ⟨fun q hq => by rw [hfr q hq, h0]; exact hH.1 q hq, fun x hx => by
      rcases List.mem_append.mp hx with h | h
      · exact hH.2.1 x h
      · exact hL x h, by rw [h0] at hsz; exact Nat.le_trans hH.2.2 hsz⟩ T' e1 X'
  refine ⟨t2, st t2 ?_, b1⟩
  have e3 : (r.map (q_cv base b)).toList ++ rest.map (q_cv base b) = (r.toList ++ rest).map (q_cv base b) := by cases r <;> simp
  show Steps p.tables e below (T'.setTop (F0 m (pc + 3) ls ((r.map (q_cv base b)).toList ++ rest.map (q_cv base b)))) t2
  rw [e3]
  exact a1
/-- what a call wants -/
theorem q_cb (C : q_C G base b X k p s m args meth c) {a nb : Nat} (ha : a < 205) (hR : q_okR k a nb = true) {n : Nat} (hn : (parseMethodDescriptor (q_mi a).1.desc).map (fun d => d.parameters.length) = some n) {idx : Nat} (hl : (Cond.methodLink (q_mi k).1.cls idx (q_mi a).1).before args s = true) :
    CallB (q_rm k) s args (q_mi k).1.cls idx (q_mi a).1 (q_mi a).2.1 (q_mi a).2.2.1 (q_mi a).2.2.2 (q_ws a) (q_rm a) (q_mc a) (q_ms a) n := by
  obtain ⟨hx, hb, hml, hown, hts, hinit, hK, hbase, hX⟩ := C
  obtain ⟨h1, h2, h3, -⟩ := q_okM_of ha
  simp only [q_okR, Bool.and_eq_true, Nat.ble_eq] at hR
  exact callB_of (Ts := q_tb) n hts (fun w hw => by
    rcases List.mem_cons.mp hw with rfl | hw
    · exact q_tb_good _ (q_w_in h1 rfl)
    · exact q_tb_good _ hw) rfl rfl rfl (hts _ (q_w_in h2 rfl)) hl ⟨h3.1, h3.2, hn⟩ ⟨hR.2.2.1, hR.2.2.2⟩
theorem q_cn (C : q_C G base b X k p s m args meth c) {a nb : Nat} (ha : a < 205) (hR : q_okR k a nb = true) {n : Nat} (hn : (parseMethodDescriptor (q_mi a).1.desc).map (fun d => d.parameters.length) = some n) {idx : Nat} (hl : va_Nw (.methodLinkNest (q_mi k).1.cls idx (q_mi a).1 "ThrownMarks") s) :
    va_CN (q_rm k) s args (q_mi k).1.cls idx (q_mi a).1 "ThrownMarks" (q_mi a).2.1 (q_mi a).2.2.1 (q_mi a).2.2.2 (q_ws a) (q_rm a) (q_mc a) (q_ms a) n := by
  obtain ⟨hx, hb, hml, hown, hts, hinit, hK, hbase, hX⟩ := C
  obtain ⟨h1, h2, h3, -⟩ := q_okM_of ha
  simp only [q_okR, Bool.and_eq_true, Nat.ble_eq] at hR
  exact va_cnB (Ts := q_tb) n hts (fun w hw => by
    rcases List.mem_cons.mp hw with rfl | hw
    · exact q_tb_good _ (q_w_in h1 rfl)
    · exact q_tb_good _ hw) rfl rfl rfl hl (hts _ (q_w_in h2 rfl)) ⟨h3.1, h3.2, hn⟩ ⟨hR.2.2.1, hR.2.2.2⟩
theorem q_inv_of {a nb c' : Nat} {fr fr' : q_Fr} {mm : q_Mm} {a2 : Nat} {as : List Value} (h : q_inv k a nb c' fr mm = some (.inr (.inr (a2, as, fr')))) : a2 = a ∧ as = (fr.2.2.1.take nb).reverse ∧ fr' = (fr.1 + 1, fr.2.1, fr.2.2.1.drop nb, fr.2.2.2.1 + q_mc a, fr.2.2.2.2 + q_ms a) ∧ nb ≤ fr.2.2.1.length ∧ q_cs (fr.2.2.1.drop nb) ≤ 8 ∧
    (q_lay as).length ≤ (q_mi a).2.2.1 ∧ q_pre c' (q_nu a 1) as mm = true ∧ fr.2.2.2.1 + q_mc a ≤ q_mc k ∧ fr.2.2.2.2 + q_ms a ≤ q_ms k := by
  unfold q_inv at h
  obtain ⟨h1, h2⟩ := q_bif h
  simp only [Bool.and_eq_true, Nat.ble_eq] at h1
  cases h2
  exact ⟨rfl, rfl, rfl, h1.1, h1.2.1, h1.2.2.1, h1.2.2.2.1, h1.2.2.2.2.1, h1.2.2.2.2.2⟩
theorem q_sop_no {fr : q_Fr} {mm : q_Mm} {ins : Instr} {a : Nat} {x : Option Value ⊕ (Nat × List Value × q_Fr)} (h : (match q_sop ins a fr.2.2.1 with | some st => q_go (q_nx fr st) mm | none => none) = some (.inr x)) : False := by
  split at h <;> cases h
/-- a step that isn't a plain one: an answer or a call -/
theorem q_step_rest (hk : k ≤ 205) {fr : q_Fr} {mm : q_Mm} {x : Option Value ⊕ (Nat × List Value × q_Fr)} (h : q_step X k fr mm = some (.inr x)) {ent : q_Ent} (he : (q_cd k)[fr.1]? = some ent) :
    (∃ v, x = .inl v ∧ fr.2.2.1 = v.toList ∧ q_rets k ent.2.2.1 v ∧ fr.2.2.2.1 ≤ q_mc k ∧ fr.2.2.2.2 ≤ q_ms k) ∨
    (∃ idx, (ent.2.2.1 = .invokevirtual idx ∧ ent.2.2.2.2.2.1 = 0 ∨ ent.2.2.1 = .invokestatic idx ∧ (ent.2.2.2.2.2.1 = 1 ∨ ent.2.2.2.2.2.1 = 4) ∨ ent.2.2.1 = .invokespecial idx ∧ (ent.2.2.2.2.2.1 = 2 ∨ ent.2.2.2.2.2.1 = 5)) ∧ q_inv k ent.2.2.2.1 ent.2.2.2.2.1 ent.2.2.2.2.2.1 fr mm = some (.inr x)) := by
  simp only [q_step, he] at h
  obtain ⟨pc, len, ins, a, b', c', d'⟩ := ent
  dsimp only at h ⊢
  unfold q_ins at h
  split at h
  · unfold q_ld at h; (exfalso; clear he; repeat' first | (cases h; done) | (replace h := (q_bif h).2) | split at h)
  · unfold q_ld at h; (exfalso; clear he; repeat' first | (cases h; done) | (replace h := (q_bif h).2) | split at h)
  · unfold q_ld at h; (exfalso; clear he; repeat' first | (cases h; done) | (replace h := (q_bif h).2) | split at h)
  · unfold q_ld at h; (exfalso; clear he; repeat' first | (cases h; done) | (replace h := (q_bif h).2) | split at h)
  · unfold q_ld at h; (exfalso; clear he; repeat' first | (cases h; done) | (replace h := (q_bif h).2) | split at h)
  · unfold q_sto at h; (exfalso; clear he; repeat' first | (cases h; done) | (replace h := (q_bif h).2) | split at h)
  · unfold q_sto at h; (exfalso; clear he; repeat' first | (cases h; done) | (replace h := (q_bif h).2) | split at h)
  · unfold q_sto at h; (exfalso; clear he; repeat' first | (cases h; done) | (replace h := (q_bif h).2) | split at h)
  · unfold q_inc at h; (exfalso; clear he; repeat' first | (cases h; done) | (replace h := (q_bif h).2) | split at h)
  · unfold q_get at h; (exfalso; clear he; repeat' first | (cases h; done) | (replace h := (q_bif h).2) | split at h)
  · unfold q_put at h; (exfalso; clear he; repeat' first | (cases h; done) | (replace h := (q_bif h).2) | split at h)
  · unfold q_ald at h; (exfalso; clear he; repeat' first | (cases h; done) | (replace h := (q_bif h).2) | split at h)
  · unfold q_ald at h; (exfalso; clear he; repeat' first | (cases h; done) | (replace h := (q_bif h).2) | split at h)
  · unfold q_ast at h; (exfalso; clear he; repeat' first | (cases h; done) | (replace h := (q_bif h).2) | split at h)
  · unfold q_ast at h; (exfalso; clear he; repeat' first | (cases h; done) | (replace h := (q_bif h).2) | split at h)
  · unfold q_qld at h; (exfalso; clear he; repeat' first | (cases h; done) | (replace h := (q_bif h).2) | split at h)
  · unfold q_qst at h; (exfalso; clear he; repeat' first | (cases h; done) | (replace h := (q_bif h).2) | split at h)
  · unfold q_len at h; (exfalso; clear he; repeat' first | (cases h; done) | (replace h := (q_bif h).2) | split at h)
  · unfold q_mk at h; (exfalso; clear he; repeat' first | (cases h; done) | (replace h := (q_bif h).2) | split at h)
  · unfold q_nar at h; (exfalso; clear he; repeat' first | (cases h; done) | (replace h := (q_bif h).2) | split at h | unfold q_mk at h)
  · unfold q_nqr at h; (exfalso; clear he; repeat' first | (cases h; done) | (replace h := (q_bif h).2) | split at h | unfold q_mk at h)
  · (exfalso; clear he; repeat' first | (cases h; done) | (replace h := (q_bif h).2) | split at h)
  · (exfalso; clear he; repeat' first | (cases h; done) | (replace h := (q_bif h).2) | split at h)
  · (exfalso; clear he; repeat' first | (cases h; done) | (replace h := (q_bif h).2) | split at h)
  · (exfalso; clear he; repeat' first | (cases h; done) | (replace h := (q_bif h).2) | split at h | unfold q_sw at h)
  · (exfalso; clear he; repeat' first | (cases h; done) | (replace h := (q_bif h).2) | split at h | unfold q_sw at h)
  · split at h
    · rename_i x0 hst
      obtain ⟨h1, h⟩ := q_bif h
      simp only [Bool.and_eq_true, Nat.ble_eq] at h1
      cases h
      exact Or.inl ⟨_, rfl, hst, Or.inl ⟨rfl, _, rfl, h1.1⟩, h1.2⟩
    · cases h
  · split at h
    · rename_i x0 hst
      obtain ⟨h1, h⟩ := q_bif h
      simp only [Bool.and_eq_true, Nat.ble_eq] at h1
      cases h
      exact Or.inl ⟨_, rfl, hst, Or.inr (Or.inl ⟨rfl, _, rfl⟩), h1⟩
    · cases h
  · split at h
    · rename_i hst
      obtain ⟨h1, h⟩ := q_bif h
      simp only [Bool.and_eq_true, Nat.ble_eq] at h1
      cases h
      exact Or.inl ⟨_, rfl, hst, Or.inr (Or.inr ⟨rfl, rfl⟩), h1⟩
    · cases h
  · rename_i idx
    obtain ⟨h1, h⟩ := q_bif h
    exact Or.inr ⟨idx, Or.inl ⟨rfl, Nat.eq_of_beq_eq_true h1⟩, h⟩
  · rename_i idx
    cases h7 : Nat.beq c' 7 with
    | true =>
      rw [h7] at h
      simp only [cond_true] at h
      unfold q_copy at h
      (exfalso; clear he; repeat' first | (cases h; done) | (replace h := (q_bif h).2) | split at h)
    | false =>
      rw [h7] at h
      simp only [cond_false] at h
      cases h8 : Nat.beq c' 8 with
      | true =>
        rw [h8] at h
        simp only [cond_true] at h
        unfold q_min at h
        (exfalso; clear he; repeat' first | (cases h; done) | (replace h := (q_bif h).2) | split at h)
      | false =>
        rw [h8] at h
        simp only [cond_false] at h
        obtain ⟨h1, h⟩ := q_bif h
        simp only [Bool.or_eq_true, Nat.beq_eq] at h1
        exact Or.inr ⟨idx, Or.inr (Or.inl ⟨rfl, h1⟩), h⟩
  · rename_i idx
    cases h6 : Nat.beq c' 6 with
    | true =>
      rw [h6] at h
      simp only [cond_true] at h
      unfold q_obi at h
      (exfalso; clear he; repeat' first | (cases h; done) | (replace h := (q_bif h).2) | split at h)
    | false =>
      rw [h6] at h
      simp only [cond_false] at h
      obtain ⟨h1, h⟩ := q_bif h
      simp only [Bool.or_eq_true, Nat.beq_eq] at h1
      exact Or.inr ⟨idx, Or.inr (Or.inr ⟨rfl, h1⟩), h⟩
  · exact (q_sop_no h).elim
set_option maxHeartbeats 8000000 in
theorem q_sound : ∀ n, q_Snd n := by
  intro n
  induction n with
  | zero => intro X k fr mm r mm' hk h; cases h
  | succ n ih =>
    intro X k fr mm r mm' hk h G base b p l e s m args below meth c Q C hfin
    simp only [q_exec] at h
    cases hst : q_step X k fr mm with
    | none => rw [hst] at h; cases h
    | some o =>
      rw [hst] at h
      cases o with
      | inl y => exact q_step_ok hk C hst (ih X k y.1 y.2 r mm' hk h C hfin)
      | inr x =>
        intro ent he H locs ls hR hH hL
        have hE := q_okE_at k hk _ _ he
        have hx := C.1
        have hb := C.2.1
        have hts := C.2.2.2.2.1
        have hK := C.2.2.2.2.2.2.1
        rcases q_step_rest hk hst he with ⟨v, rfl, hv, hrt, hcu, hsu⟩ | ⟨idx, hi, hinv⟩
        · simp only [Option.some.injEq, Prod.mk.injEq] at h
          obtain ⟨rfl, rfl⟩ := h
          simp only [q_okE, Bool.and_eq_true, decide_eq_true_eq] at hE
          have hl1 : ent.2.1 = 1 ∧ (ent.2.2.1 = .areturn → (q_mi k).2.2.2 = some (.object "ThrownMarks$Card")) ∧ (ent.2.2.1 = .return_ → (q_mi k).2.2.2 = none) := by
            have hI := hE.2
            rcases hrt with ⟨hi, -⟩ | ⟨hi, -⟩ | ⟨hi, -⟩
            · rw [hi] at hI ⊢
              simp only [q_okI, Bool.and_eq_true, Nat.beq_eq] at hI
              exact ⟨hI.1, (fun q => by cases q), (fun q => by cases q)⟩
            · rw [hi] at hI ⊢
              simp only [q_okI, Bool.and_eq_true, Nat.beq_eq, decide_eq_true_eq] at hI
              exact ⟨hI.1, (fun _ => hI.2), (fun q => by cases q)⟩
            · rw [hi] at hI ⊢
              simp only [q_okI, Bool.and_eq_true, Nat.beq_eq, decide_eq_true_eq] at hI
              exact ⟨hI.1, (fun q => by cases q), (fun _ => hI.2)⟩
          rw [hv]
          exact hfin ent H locs ls _ _ (by rw [hE.1, hl1.1]) hrt hl1.2.1 hl1.2.2 hR hH hcu hsu
        · match x, hinv with
          | .inl v, hinv => unfold q_inv at hinv; have := (q_bif hinv).2; cases this
          | .inr (a2, as, fr'), hinv =>
            obtain ⟨rfl, has, hfr, hnb, hcs, hlay, hpre, hmc, hms⟩ := q_inv_of hinv
            simp only at h
            cases hca : q_exec n none ent.2.2.2.1 (q_ent ent.2.2.2.1 as) mm with
            | none => rw [hca] at h; cases h
            | some w =>
              obtain ⟨v, mm1⟩ := w
              rw [hca] at h
              simp only at h
              have kk := ih X k (q_ret v fr') mm1 r mm' hk h C hfin
              obtain ⟨pc, len, ins, a, nb, c', d'⟩ := ent
              obtain ⟨i, al, st, cu, su⟩ := fr
              simp only [q_okE, Bool.and_eq_true, decide_eq_true_eq] at hE
              obtain ⟨hd, hI⟩ := hE
              dsimp only at *
              subst hfr
              have fin : ∀ {c2 : Bool} {As : List Value} {st0 : List Value}, q_nxt (q_cd k) i (pc + 3) = true → va_Run p l e (q_rm k) s m args below meth c H locs cu su (q_mc a) (q_ms a) (F0 m pc ls (st.map (q_cv base b))) ((st.drop nb).map (q_cv base b)) (q_Qc G base b v mm1 (as.map (q_cv base b)).toArray) (fun q => base ≤ q) →
                  W p l e (q_rm k) s m args below meth c H locs cu su Q (F0 m pc ls (st.map (q_cv base b))) := by
                intro _ _ _ hn hr
                obtain ⟨e', h1, h2⟩ := q_nxt_of hn
                refine q_w_ret hr hH (fun H' locs' r1 r2 => ?_)
                have := kk e' h1 H' locs' ls r1 r2 hL
                rw [h2] at this
                exact this
              obtain ⟨-, -, hml, hown, -⟩ := id C
              have hsz : ls.size = (q_mi k).2.2.1 := hL.1
              have hroom : (((st.drop nb).map (q_cv base b)).map fun v => v.category).sum ≤ 8 := by
                have e1 := q_cs_map base b (st.drop nb)
                unfold q_cs at e1 hcs
                rw [e1]; exact hcs
              have htk : st.take nb = as.reverse := by rw [has, List.reverse_reverse]
              have hlen : as.length = nb := by rw [has, List.length_reverse, List.length_take]; omega
              have hstk : st.map (q_cv base b) = (as.map (q_cv base b)).reverse ++ (st.drop nb).map (q_cv base b) := by
                have e1 : st = as.reverse ++ st.drop nb := by rw [← htk, List.take_append_drop]
                rw [← List.map_reverse, ← List.map_append, ← e1]
              rcases hi with ⟨rfl, rfl⟩ | ⟨rfl, hc⟩ | ⟨rfl, hc⟩
              · simp only [q_okI, Bool.and_eq_true, Nat.beq_eq, q_okL, decide_eq_true_eq] at hI
                obtain ⟨⟨⟨⟨rfl, hn⟩, hokR⟩, hlk⟩, hkind⟩ := hI
                have hokR' := hokR
                simp only [q_okR, Bool.and_eq_true, Nat.blt_eq, Nat.beq_eq] at hokR'
                obtain ⟨ha, hnb2, -⟩ := hokR'
                obtain ⟨-, -, -, -, -, hin, hse, -⟩ := q_okM_of ha
                obtain ⟨hi1, hi2, hi3⟩ := hin (by omega)
                obtain ⟨hs1, hs2⟩ := hse hkind
                change q_rcv (q_nu a 1) as mm = true at hpre
                unfold q_rcv at hpre
                split at hpre
                · rename_i id as1
                  split at hpre
                  · rename_i cj fs hsh
                    have hcj := Nat.eq_of_beq_eq_true hpre
                    obtain ⟨r', hr', cell, q1, q2, q3, -⟩ := hR.2 _ _ hsh
                    rw [hcj, hr'] at hs2
                    have hC : r'.1 = (q_mi a).1.cls := Option.some.inj hs2
                    have hfc := (hK.1 cj r' hr').2.1
                    refine fin (c2 := true) (As := []) (st0 := []) hn ?_
                    refine va_runV (C := (q_mi a).1.cls) (As := as1.map (q_cv base b)) (n := q_nu a 2 - 1) ⟨hx, hb, hml, hown, hts⟩ (q_met ha ih hca hlay G base b) ⟨q_cb C ha hokR hi3 (hts _ (q_w_in hlk rfl)), hts _ (q_w_in hi1 rfl), hts _ (q_w_in hs1 rfl)⟩ ⟨q_Pc_blind, ⟨cell, q1, by rw [q3]; rfl, by rw [← hC, hfc, q2]⟩, fun U hU hW => ⟨rfl, by rw [hU]; exact hR, hK.warm hW⟩⟩ rfl ?_ hsz ?_ (lv_room hroom) hd ⟨hmc, hms⟩
                    · rw [List.length_map]; rw [List.length_cons] at hlen; omega
                    · show st.map (q_cv base b) = _
                      rw [hstk]; simp [q_cv]
                  · cases hpre
                · cases hpre
              · simp only [q_okI, Bool.and_eq_true, Nat.beq_eq] at hI
                obtain ⟨⟨rfl, hn⟩, hI⟩ := hI
                have h7 : Nat.beq c' 7 = false := by rcases hc with rfl | rfl <;> rfl
                have h8 : Nat.beq c' 8 = false := by rcases hc with rfl | rfl <;> rfl
                simp only [h7, h8, cond_false, Bool.and_eq_true, Nat.beq_eq] at hI
                obtain ⟨⟨hokR, hkind⟩, hlk⟩ := hI
                have hokR' := hokR
                simp only [q_okR, Bool.and_eq_true, Nat.blt_eq, Nat.beq_eq] at hokR'
                obtain ⟨ha, hnb2, -⟩ := hokR'
                obtain ⟨-, -, -, -, hsta, -, -, -⟩ := q_okM_of ha
                obtain ⟨hs1, hs2⟩ := hsta hkind
                rcases hc with rfl | rfl
                · simp only [show Nat.beq 1 1 = true from rfl, cond_true, q_okL, decide_eq_true_eq] at hlk
                  refine fin (c2 := true) (As := []) (st0 := []) hn ?_
                  exact va_runS (As := as.map (q_cv base b)) (n := q_nu a 2) ⟨hx, hb, hml, hown, hts⟩ (q_met ha ih hca hlay G base b) ⟨q_cb C ha hokR hs2 (hts _ (q_w_in hlk rfl)), hts _ (q_w_in hs1 rfl)⟩ ⟨q_Pc_blind, fun U hU hW => ⟨rfl, by rw [hU]; exact hR, hK.warm hW⟩⟩ rfl (by rw [List.length_map]; omega) hsz hstk (lv_room hroom) hd ⟨hmc, hms⟩
                · simp only [show Nat.beq 4 1 = false from rfl, cond_false, q_okN, decide_eq_true_eq] at hlk
                  refine fin (c2 := true) (As := []) (st0 := []) hn ?_
                  exact va_runSN (As := as.map (q_cv base b)) (n := q_nu a 2) ⟨hx, hb, hml, hown, hts⟩ (q_met ha ih hca hlay G base b) ⟨q_cn C ha hokR hs2 (hK.2.2.2.2 _ _ _ _ (List.mem_of_getElem? hlk)), hts _ (q_w_in hs1 rfl), trivial⟩ ⟨q_Pc_blind, fun U hU hW => ⟨rfl, by rw [hU]; exact hR, hK.warm hW⟩⟩ rfl (by rw [List.length_map]; omega) hsz hstk (lv_room hroom) hd ⟨hmc, hms⟩
              · simp only [q_okI, Bool.and_eq_true, Nat.beq_eq] at hI
                obtain ⟨⟨rfl, hn⟩, hI⟩ := hI
                have h6 : Nat.beq c' 6 = false := by rcases hc with rfl | rfl <;> rfl
                simp only [h6, cond_false, Bool.and_eq_true, Nat.beq_eq] at hI
                obtain ⟨⟨hokR, hkind⟩, hlk⟩ := hI
                have hokR' := hokR
                simp only [q_okR, Bool.and_eq_true, Nat.blt_eq, Nat.beq_eq] at hokR'
                obtain ⟨ha, hnb2, -⟩ := hokR'
                obtain ⟨-, -, -, -, -, hin, -, hini⟩ := q_okM_of ha
                obtain ⟨hi1, hi2, hi3⟩ := hin (by omega)
                obtain ⟨hn1, hn2⟩ := hini hkind
                have hisr : q_isr as = true := by
                  rcases hc with rfl | rfl
                  · exact hpre
                  · exact hpre
                unfold q_isr at hisr
                split at hisr
                · rename_i id as1
                  rcases hc with rfl | rfl
                  · simp only [show Nat.beq 2 2 = true from rfl, cond_true, q_okL, decide_eq_true_eq] at hlk
                    have hcb := q_cb C ha hokR hi3 (hts _ (q_w_in hlk rfl))
                    rw [hn2] at hcb
                    refine fin (c2 := true) (As := []) (st0 := []) hn ?_
                    refine va_runI (As := as1.map (q_cv base b)) (n := q_nu a 2 - 1) ⟨hx, hb, hml, hown, hts⟩ (q_met ha ih hca hlay G base b) ⟨hcb, hn1, hts _ (q_w_in hi1 rfl)⟩ ⟨q_Pc_blind, fun U hU hW => ⟨rfl, by rw [hU]; exact hR, hK.warm hW⟩⟩ rfl ?_ hsz ?_ (lv_room hroom) hd ⟨hmc, hms⟩
                    · rw [List.length_map]; rw [List.length_cons] at hlen; omega
                    · show st.map (q_cv base b) = _
                      rw [hstk]; simp [q_cv]
                  · simp only [show Nat.beq 5 2 = false from rfl, cond_false, q_okN, decide_eq_true_eq] at hlk
                    have hcb := q_cn C ha hokR hi3 (hK.2.2.2.2 _ _ _ _ (List.mem_of_getElem? hlk))
                    rw [hn2] at hcb
                    refine fin (c2 := true) (As := []) (st0 := []) hn ?_
                    refine va_runIN (As := as1.map (q_cv base b)) (n := q_nu a 2 - 1) ⟨hx, hb, hml, hown, hts⟩ (q_met ha ih hca hlay G base b) ⟨hcb, hn1, hts _ (q_w_in hi1 rfl)⟩ ⟨q_Pc_blind, fun U hU hW => ⟨rfl, by rw [hU]; exact hR, hK.warm hW⟩⟩ rfl ?_ hsz ?_ (lv_room hroom) hd ⟨hmc, hms⟩
                    · rw [List.length_map]; rw [List.length_cons] at hlen; omega
                    · show st.map (q_cv base b) = _
                      rw [hstk]; simp [q_cv]
                · cases hisr
end QE
