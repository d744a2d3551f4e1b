/-! the things behind a step -/
theorem q_cF_eq {base : Nat} {M M' : Nat → Nat → Int32} {id : Nat} (h : M' id = M id) (fs : List (Option (Option Nat))) : q_cF base M' id fs = q_cF base M id fs := by
  funext k
  simp only [q_cF]
  split
  · rename_i o _
    cases o with
    | none => simp only [q_fv, h]
    | some o => cases o <;> rfl
  · rfl
theorem q_cell.kept {G : q_G} {base id : Nat} {M M' : Nat → Nat → Int32} {sh : q_Sh} {H H' : Heap} (h : q_cell G base M id sh H) (hq : H'[base + id]? = H[base + id]?) (hM : M' id = M id) : q_cell G base M' id sh H' := by
  match sh, h with
  | .inl (bo, n), h => simp only [q_cell] at h ⊢; rw [hq, hM]; exact h
  | .inr (.inl (ci, fs)), h =>
    obtain ⟨r, h1, h2⟩ := h
    exact ⟨r, h1, by rw [q_cF_eq hM]; exact h2.kept hq⟩
  | .inr (.inr (ci, rs)), h => simp only [q_cell] at h ⊢; rw [hq]; exact h
theorem q_R_put0 {G : q_G} {base id : Nat} {mm : q_Mm} {M' : Nat → Nat → Int32} {H H' : Heap} {sh : q_Sh} (hR : q_R G base mm H) (hi : mm.1[id]? = some sh) (e2 : H'.size = H.size) (e3 : ∀ q, q ≠ base + id → H'[q]? = H[q]?) (hc : q_cell G base M' id sh H') (hM : ∀ j, j ≠ id → M' j = mm.2 j) : q_R G base (mm.1, M') H' := by
  refine ⟨by rw [e2]; exact hR.1, fun j sj hj => ?_⟩
  by_cases e : j = id
  · subst e
    cases hi.symm.trans hj
    exact hc
  · exact (hR.2 j sj hj).kept (e3 _ (by omega)) (hM j e)
theorem q_R_put {G : q_G} {base id : Nat} {mm : q_Mm} {M' : Nat → Nat → Int32} {H H' : Heap} {sh : q_Sh} (hR : q_R G base mm H) (hi : id < mm.1.length) (e2 : H'.size = H.size) (e3 : ∀ q, q ≠ base + id → H'[q]? = H[q]?) (hc : q_cell G base M' id sh H') (hM : ∀ j, j ≠ id → M' j = mm.2 j) : q_R G base (mm.1.set id sh, M') H' := by
  refine ⟨by rw [e2, List.length_set]; exact hR.1, fun j sj hj => ?_⟩
  rw [List.getElem?_set] at hj
  split at hj
  · rename_i e
    subst e
    cases hj
    exact hc
  · rename_i e
    exact (hR.2 j sj hj).kept (e3 _ (by omega)) (hM j (Ne.symm e))
theorem q_R_push {G : q_G} {base : Nat} {mm : q_Mm} {M' : Nat → Nat → Int32} {H H' : Heap} {sh : q_Sh} (hR : q_R G base mm H) (e2 : H'.size = H.size + 1) (e3 : ∀ q, q < H.size → H'[q]? = H[q]?) (hc : q_cell G base M' mm.1.length sh H') (hM : ∀ j, j ≠ mm.1.length → M' j = mm.2 j) : q_R G base (mm.1 ++ [sh], M') H' := by
  refine ⟨by rw [e2, hR.1, List.length_append]; rfl, fun j sj hj => ?_⟩
  by_cases e : j < mm.1.length
  · rw [List.getElem?_append_left e] at hj
    exact (hR.2 j sj hj).kept (e3 _ (by rw [hR.1]; omega)) (hM j (by omega))
  · rw [List.getElem?_append_right (by omega)] at hj
    have hz : j - mm.1.length < 1 := (List.getElem?_eq_some_iff.mp hj).1
    have hj2 : j = mm.1.length := by omega
    subst hj2
    rw [Nat.sub_self] at hj
    cases hj
    exact hc
theorem q_H.put {base id i : Nat} {s : State} {H H' : Heap} {locs : List Loc} (h : q_H base s H locs) (e2 : H'.size = H.size) (e3 : ∀ q, q ≠ base + id → H'[q]? = H[q]?) : q_H base s H' (locs ++ [⟨base + id, i⟩]) := by
  refine ⟨fun q hq => (e3 q (by omega)).trans (h.1 q hq), fun x hx => ?_, by rw [e2]; exact h.2.2⟩
  rcases List.mem_append.mp hx with hx | hx
  · exact h.2.1 x hx
  · rw [List.mem_singleton.mp hx]; exact Nat.le_add_right _ _
theorem q_H.push {base : Nat} {s : State} {H H' : Heap} {locs : List Loc} (h : q_H base s H locs) (hb : base ≤ H.size) (e2 : H'.size = H.size + 1) (e3 : ∀ q, q < H.size → H'[q]? = H[q]?) : q_H base s H' locs :=
  ⟨fun q hq => (e3 q (by omega)).trans (h.1 q hq), h.2.1, by rw [e2]; exact Nat.le_succ_of_le h.2.2⟩
theorem q_in_of {i : Int32} {n : Nat} (h : q_in i n = true) : vp_in i n ∧ i.toNatClampNeg < n := by
  simp only [q_in, Bool.and_eq_true, Bool.not_eq_true', decide_eq_false_iff_not, Nat.blt_eq] at h
  exact ⟨fun q => q.elim h.1 (fun z => Nat.not_le.mpr h.2 z), h.2⟩
theorem q_up_at (M : Nat → Nat → Int32) (i : Nat) (f : Nat → Int32) : q_up M i f i = f := by simp [q_up]
theorem q_up_ne (M : Nat → Nat → Int32) {i j : Nat} (f : Nat → Int32) (h : j ≠ i) : q_up M i f j = M j := by simp [q_up, h]
/-- what the tables say of a class -/
def q_cls (r : vw_C) : Prop := (∀ w ∈ u_ws r.1 r.2.1 r.2.2, w ∈ q_tb) ∧ (∀ a, a < r.2.2 → ∀ b, b < r.2.2 → a ≠ b → (r.2.1 a).2.1 ≠ (r.2.1 b).2.1) ∧
  ∃ ty : Nat → FieldType, (∀ j, j < r.2.2 → parseFieldDescriptor (r.2.1 j).2.2.1 = some (ty j)) ∧ ∀ j, j < r.2.2 → ty j = .int ∨ (ty j).isReference = true
set_option maxRecDepth 100000 in
theorem q_cls0 : q_cls (RX0, TX0, 6) := ⟨by decide +kernel, nmX0, tyX0, tyX0_ok, by decide +kernel⟩
set_option maxRecDepth 100000 in
theorem q_cls1 : q_cls (RX1, TX1, 1) := ⟨by decide +kernel, nmX1, tyX1, tyX1_ok, by decide +kernel⟩
set_option maxRecDepth 100000 in
theorem q_cls2 : q_cls (RX2, TX2, 2) := ⟨by decide +kernel, nmX2, tyX2, tyX2_ok, by decide +kernel⟩
set_option maxRecDepth 100000 in
theorem q_cls3 : q_cls (RX3, TX3, 8) := ⟨by decide +kernel, nmX3, tyX3, tyX3_ok, by decide +kernel⟩
set_option maxRecDepth 100000 in
theorem q_cls4 : q_cls (RX4, TX4, 1) := ⟨by decide +kernel, nmX4, tyX4, tyX4_ok, by decide +kernel⟩
set_option maxRecDepth 100000 in
theorem q_cls5 : q_cls (RX5, TX5, 5) := ⟨by decide +kernel, nmX5, tyX5, tyX5_ok, by decide +kernel⟩
set_option maxRecDepth 100000 in
theorem q_cls6 : q_cls (RX6, TX6, 4) := ⟨by decide +kernel, nmX6, tyX6, tyX6_ok, by decide +kernel⟩
set_option maxRecDepth 100000 in
theorem q_cls7 : q_cls (RX7, TX7, 2) := ⟨by decide +kernel, nmX7, tyX7, tyX7_ok, by decide +kernel⟩
set_option maxRecDepth 100000 in
theorem q_cls8 : q_cls (RX8, TX8, 10) := ⟨by decide +kernel, nmX8, tyX8, tyX8_ok, by decide +kernel⟩
set_option maxRecDepth 100000 in
theorem q_cls9 : q_cls (RX9, TX9, 29) := ⟨by decide +kernel, nmX9, tyX9, tyX9_ok, by decide +kernel⟩
theorem q_cls_ok : ∀ (ci : Nat) (r : vw_C), vwCl[ci]? = some r → q_cls r := by
  intro ci r h
  match ci, h with
  | 0, h => cases h; exact q_cls0
  | 1, h => cases h; exact q_cls1
  | 2, h => cases h; exact q_cls2
  | 3, h => cases h; exact q_cls3
  | 4, h => cases h; exact q_cls4
  | 5, h => cases h; exact q_cls5
  | 6, h => cases h; exact q_cls6
  | 7, h => cases h; exact q_cls7
  | 8, h => cases h; exact q_cls8
  | 9, h => cases h; exact q_cls9
  | n + 10, h => simp [vwCl] at h
theorem q_fv_cv {base b b' : Nat} {M : Nat → Nat → Int32} {id k : Nat} {o : Option (Option Nat)} : q_cv base b (q_fv M id k o) = q_cv base b' (q_fv M id k o) := by
  match o with
  | none => rfl
  | some none => rfl
  | some (some q) => rfl
theorem q_ra_cv {base b b' : Nat} {o : Option Nat} : q_cv base b (q_ra o) = q_cv base b' (q_ra o) := by
  match o with
  | none => rfl
  | some q => rfl
section QM
variable {p : Program} {l : Launch} {e : Env} {R : Room} {s : State} {m : MethodId} {args : Array Value} {below : List Frame} {meth : Method} {c : Code} {H : Heap} {locs : List Loc} {cells slots : Nat} {Q : State → Prop}
variable {cc : ByteArray} {pc : Nat} {ls : Array Slot} {base b : Nat} {G : q_G} {mm : q_Mm} {rest : List Value}
theorem q_w_get (hx : p.tables.exec = Jvm.exec) (hb : c.code = cc) {own : String} (hown : s.vm.findClass own = some m.cls) (hts : ∀ w ∈ q_tb, w.before args s = true) (hK : q_K G s) (hR : q_R G base mm H)
    {id ci k idx wp : Nat} {fs : List (Option (Option Nat))} {o : Option (Option Nat)} (hs : mm.1[id]? = some (.inr (.inl (ci, fs)))) (ho : fs[k]? = some o) (hF : q_okF own idx ci k wp = true) (hd : decode cc pc = .ok (.getfield idx, 3))
    (kk : W p l e R s m args below meth c H locs cells slots Q (F0 m (pc + 3) ls (q_cv base b (q_fv mm.2 id k o) :: rest))) : W p l e R s m args below meth c H locs cells slots Q (F0 m pc ls (.ref (base + id) :: rest)) := by
  obtain ⟨r, hr, cell, q1, q2, q3, q4⟩ := hR.2 _ _ hs
  obtain ⟨C, T, N⟩ := r
  simp only [q_okF, hr, Bool.and_eq_true, Nat.blt_eq, decide_eq_true_eq] at hF
  obtain ⟨hS, hfc, kC, hkC, hkind⟩ := hK.1 ci _ hr
  obtain ⟨cf, kf, fi, f, hi, hsl⟩ := hS k hF.1
  refine W.getf hx hb hown (hts _ (q_w_in hF.2 rfl)) hi (u_facts hfc hkC (u_lays hts (q_cls_ok _ _ hr).1 hF.1) hi).1 q1 (by rw [q3]; exact fun h => by cases h) (v := q_cv base b (q_fv mm.2 id k o)) ?_ rfl rfl hd kk
  rw [hsl, q4 k hF.1]
  simp only [q_cF, ho]
  rw [q_fv_cv]
theorem q_nr {ty : FieldType} {q : Nat} (h : ty.isReference = true) : narrow ty (.ref q) = .ref q ∧ fits ty (.ref q) = true := by
  cases ty <;> first | exact ⟨rfl, rfl⟩ | cases h
theorem q_w_put (hx : p.tables.exec = Jvm.exec) (hb : c.code = cc) {own : String} (hown : s.vm.findClass own = some m.cls) (hts : ∀ w ∈ q_tb, w.before args s = true) (hK : q_K G s) (hR : q_R G base mm H)
    {id ci k idx wp dd : Nat} {init : Bool} {fs : List (Option (Option Nat))} {v : Value} (hs : mm.1[id]? = some (.inr (.inl (ci, fs)))) (hF : q_okF own idx ci k wp = true) (hPp : q_okP own init ci k dd = true) (hin : init = true → meth.name = "<init>")
    (hv : (dd = 0 ∧ ∃ x, v = .int x) ∨ (dd = 1 ∧ ∃ q, v = .ref q)) (hd : decode cc pc = .ok (.putfield idx, 3))
    (kk : ∀ (H' : Heap) (i : Nat), H'.size = H.size → (∀ q, q ≠ base + id → H'[q]? = H[q]?) → (∃ r : vw_C, vwCl[ci]? = some r ∧ t_OB (base + id) (G.1 ci) r.2.2 (G.2.1 ci) H' (updV (q_cF base mm.2 id fs) k v)) →
      W p l e R s m args below meth c H' (locs ++ [⟨base + id, i⟩]) cells slots Q (F0 m (pc + 3) ls rest)) : W p l e R s m args below meth c H locs cells slots Q (F0 m pc ls (v :: .ref (base + id) :: rest)) := by
  obtain ⟨r, hr, cell, q1, q2, q3, q4⟩ := hR.2 _ _ hs
  obtain ⟨hin1, hnm, ty0, hty, hty2⟩ := q_cls_ok _ _ hr
  obtain ⟨C, T, N⟩ := r
  simp only [q_okF, hr, Bool.and_eq_true, Nat.blt_eq, decide_eq_true_eq] at hF
  simp only [q_okP, hr, Bool.and_eq_true] at hPp
  have hk := hF.1
  have hap := va_apart (own := own) (D := (G.1, G.2.1)) (tys := []) hts hin1 ty0 hty hnm ⟨hK.1, fun k q h => by simp at h⟩ hr
  obtain ⟨hS, hfc, kC, hkC, hkind⟩ := hK.1 ci _ hr
  obtain ⟨cf, kf, fi, f, hi, hsl⟩ := hS k hk
  have hst := (u_facts hfc hkC (u_lays hts hin1 hk) hi).1
  have hdt : ∃ ty, parseFieldDescriptor (T k).2.2.1 = some ty ∧ narrow ty v = v ∧ fits ty v = true := by
    have h2 := hPp.2
    refine ⟨ty0 k, hty k hk, ?_⟩
    have e0 := hty k hk
    simp only at e0
    simp only [e0] at h2
    rcases hv with ⟨rfl, x, rfl⟩ | ⟨rfl, q, rfl⟩
    · have : ty0 k = .int := by
        revert h2; cases ty0 k <;> intro h2 <;> first | rfl | cases h2
      rw [this]; exact ⟨rfl, rfl⟩
    · refine q_nr ?_
      revert h2; cases ty0 k <;> intro h2 <;> first | rfl | cases h2
  obtain ⟨ty, hdd, hn, hfit⟩ := hdt
  have hlay := hts _ (hin1 _ (u_in_lay hk))
  unfold u_lay at hlay
  have fin : ∀ H' : Heap, H'[base + id]? = some (cell.setSlot f.slot v) → H'.size = H.size → (∀ q, q ≠ base + id → H'[q]? = H[q]?) → W p l e R s m args below meth c H' (locs ++ [⟨base + id, f.slot⟩]) cells slots Q (F0 m (pc + 3) ls rest) := by
    intro H' e1 e2 e3
    rw [hsl] at e1 ⊢
    exact kk H' _ e2 e3 ⟨_, hr, _, e1, q2, q3, t_set q4 hap hk v⟩
  by_cases hfin : (T k).2.2.2 = true
  · simp only [hfin] at hPp
    rw [if_pos hfin] at hlay
    have hh : init = true ∧ (T k).1 = own := by simpa using hPp.1
    have hcf : m.cls = cf := by
      obtain ⟨_, _, c', _, _, _, -, -, hf', -, -, -, hown2, -⟩ := Cond.laysFinal_spec hlay
      have e1 : c' = cf := by have := hi.symm.trans hf'; simp at this; exact this.1.symm
      rw [hh.2] at hown2
      rw [← e1]; exact Option.some.inj (hown.symm.trans hown2)
    have h6 := u_fits hfc hkC hkind (Or.inr hlay) hi hdd hn hfit
    exact W.putFinK hx hb hown (hts _ (q_w_in hF.2 rfl)) hi hst hcf (hin hh.1) (by rw [q2]; exact h6) q1 q3 (by rw [hsl]; exact k2_hasslot (q4 k hk)) rfl rfl hd fin
  · rw [if_neg hfin] at hlay
    have h6 := u_store hfc hkC hkind hlay hi hdd hn hfit
    exact W.putK hx hb (f := f) ⟨hown, hts _ (q_w_in hF.2 rfl), ⟨_, _, _, hi⟩, hst⟩ (by rw [q2]; exact h6) q1 q3 (by rw [hsl]; exact k2_hasslot (q4 k hk)) rfl rfl hd fin
end QM
