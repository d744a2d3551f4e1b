section QA
variable {p : Program} {l : Launch} {e : Env} {R : Room} {s : State} {m : MethodId} {args : Array Value} {below : List Frame} {meth : Method} {c : Code} {H : Heap} {locs : List Loc} {cells slots : Nat} {Q : State → Prop}
variable {cc : ByteArray} {pc : Nat} {ls : Array Slot} {base b : Nat} {G : q_G} {mm : q_Mm} {rest : List Value}
theorem q_w_iald (hx : p.tables.exec = Jvm.exec) (hb : c.code = cc) (hK : q_K G s) (hR : q_R G base mm H) {id n : Nat} {bo : Bool} {i : Int32} (hs : mm.1[id]? = some (.inl (bo, n))) (hi : q_in i n = true) (hd : decode cc pc = .ok (bif bo then .baload else .iaload, 1))
    (kk : W p l e R s m args below meth c H locs cells slots Q (F0 m (pc + 1) ls (.int (mm.2 id i.toNatClampNeg) :: rest))) : W p l e R s m args below meth c H locs cells slots Q (F0 m pc ls (.int i :: .ref (base + id) :: rest)) := by
  have hc := hR.2 _ _ hs
  obtain ⟨h1, h2⟩ := q_in_of hi
  cases bo with
  | false => exact W.iald (v := .int (mm.2 id i.toNatClampNeg)) hx hb hc (hK.2.1.1 n _) (fun q => by cases q) (by show ¬ (i < 0 ∨ (arrV _ _ _).slots.size ≤ _); rw [arrV_size]; exact h1) (by rw [arrV_read _ _ h2]) rfl rfl hd kk
  | true => exact W.zald (v := .int (mm.2 id i.toNatClampNeg)) hx hb hc (hK.2.2.1.1 n _) (fun q => by cases q) (by show ¬ (i < 0 ∨ (arrV _ _ _).slots.size ≤ _); rw [arrV_size]; exact h1) (by rw [arrV_read _ _ h2]) rfl rfl hd kk
theorem q_w_iast (hx : p.tables.exec = Jvm.exec) (hb : c.code = cc) (hK : q_K G s) (hR : q_R G base mm H) (hH : q_H base s H locs) {id n : Nat} {bo : Bool} {i x : Int32} (hs : mm.1[id]? = some (.inl (bo, n))) (hi : q_in i n = true) (hd : decode cc pc = .ok (bif bo then .bastore else .iastore, 1))
    (kk : ∀ H' locs', q_R G base (mm.1, q_up mm.2 id (upd (mm.2 id) i.toNatClampNeg (bif bo then vp_nar .boolean x else x))) H' → q_H base s H' locs' → W p l e R s m args below meth c H' locs' cells slots Q (F0 m (pc + 1) ls rest)) : W p l e R s m args below meth c H locs cells slots Q (F0 m pc ls (.int x :: .int i :: .ref (base + id) :: rest)) := by
  have hc := hR.2 _ _ hs
  obtain ⟨h1, h2⟩ := q_in_of hi
  cases bo with
  | false =>
    refine W.iast hx hb hc (hK.2.1.1 n _) (fun q => by cases q) (by show ¬ (i < 0 ∨ (arrV _ _ _).slots.size ≤ _); rw [arrV_size]; exact h1) rfl rfl hd fun H1 e z oq => ?_
    refine kk H1 _ (q_R_put0 hR hs z oq ?_ (fun j hj => q_up_ne _ _ hj)) (hH.put z oq)
    show H1[base + id]? = _
    rw [e, arrV_store]
    congr 2
    funext j
    rw [q_up_at]
    by_cases hj : j = i.toNatClampNeg
    · subst hj; simp [updV, upd]
    · simp [updV, upd, hj]
  | true =>
    refine W.zast hx hb hc (hK.2.2.1.1 n _) (fun q => by cases q) (by show ¬ (i < 0 ∨ (arrV _ _ _).slots.size ≤ _); rw [arrV_size]; exact h1) rfl rfl hd fun H1 e z oq => ?_
    refine kk H1 _ (q_R_put0 hR hs z oq ?_ (fun j hj => q_up_ne _ _ hj)) (hH.put z oq)
    show H1[base + id]? = _
    rw [e, arrV_store]
    congr 2
    funext j
    rw [q_up_at]
    by_cases hj : j = i.toNatClampNeg
    · subst hj; simp [updV, upd, vp_nar, narrow]
    · simp [updV, upd, hj]
theorem q_w_len (hx : p.tables.exec = Jvm.exec) (hb : c.code = cc) (hK : q_K G s) (hR : q_R G base mm H) {id n : Nat} {bo : Bool} (hs : mm.1[id]? = some (.inl (bo, n))) (hd : decode cc pc = .ok (.arraylength, 1))
    (kk : W p l e R s m args below meth c H locs cells slots Q (F0 m (pc + 1) ls (.int (Int32.ofNat n) :: rest))) : W p l e R s m args below meth c H locs cells slots Q (F0 m pc ls (.ref (base + id) :: rest)) := by
  have hc := hR.2 _ _ hs
  cases bo with
  | false => exact W.alen (n := Int32.ofNat n) hx hb hc (hK.2.1.1 n _) (by rw [arrV_size] <;> rfl) rfl rfl hd kk
  | true => exact W.alen (n := Int32.ofNat n) hx hb hc (hK.2.2.1.1 n _) (by rw [arrV_size] <;> rfl) rfl rfl hd kk
theorem q_w_aald (hx : p.tables.exec = Jvm.exec) (hb : c.code = cc) (hK : q_K G s) (hR : q_R G base mm H) {id ci : Nat} {rs : List (Option Nat)} {i : Int32} (hs : mm.1[id]? = some (.inr (.inr (ci, rs)))) (hci : ci = 0 ∨ ci = 5) (hi : q_in i rs.length = true) (hd : decode cc pc = .ok (.aaload, 1))
    (kk : W p l e R s m args below meth c H locs cells slots Q (F0 m (pc + 1) ls (q_cv base b (q_ra (rs.getD i.toNatClampNeg none)) :: rest))) : W p l e R s m args below meth c H locs cells slots Q (F0 m pc ls (.int i :: .ref (base + id) :: rest)) := by
  have hc := hR.2 _ _ hs
  obtain ⟨h1, h2⟩ := q_in_of hi
  obtain ⟨r, hr⟩ : ∃ r, vwCl[ci]? = some r := by rcases hci with rfl | rfl <;> exact ⟨_, rfl⟩
  exact W.aald (v := q_cv base b (q_ra (rs.getD i.toNatClampNeg none))) (ty := .object r.1) hx hb hc ((hK.2.2.2.1 ci r hci hr).2.1 rs.length _) rfl (fun q => by cases q) (by show ¬ (i < 0 ∨ (arrV _ _ _).slots.size ≤ _); rw [arrV_size]; exact h1) (by rw [arrV_read _ _ h2]; rw [q_ra_cv]) rfl rfl hd kk
theorem q_w_aast (hx : p.tables.exec = Jvm.exec) (hb : c.code = cc) (hK : q_K G s) (hR : q_R G base mm H) (hH : q_H base s H locs) {id ci v : Nat} {rs : List (Option Nat)} {fs : List (Option (Option Nat))} {i : Int32} (hs : mm.1[id]? = some (.inr (.inr (ci, rs)))) (hv : mm.1[v]? = some (.inr (.inl (ci, fs)))) (hci : ci = 0 ∨ ci = 5) (hi : q_in i rs.length = true) (hd : decode cc pc = .ok (.aastore, 1))
    (kk : ∀ H' locs', q_R G base (mm.1.set id (.inr (.inr (ci, rs.set i.toNatClampNeg (some v)))), mm.2) H' → q_H base s H' locs' → W p l e R s m args below meth c H' locs' cells slots Q (F0 m (pc + 1) ls rest)) : W p l e R s m args below meth c H locs cells slots Q (F0 m pc ls (.ref (base + v) :: .int i :: .ref (base + id) :: rest)) := by
  have hc := hR.2 _ _ hs
  obtain ⟨h1, h2⟩ := q_in_of hi
  have h0 : ¬ i < 0 := fun q => h1 (Or.inl q)
  obtain ⟨r, hr, cellV, g1, g2, g3, -⟩ := hR.2 _ _ hv
  have hcls := (hK.1 ci r hr).2
  obtain ⟨kA, comp, k1, k2, k3, -⟩ := (hK.2.2.2.1 ci r hci hr).2.2
  have hcomp : comp = G.1 ci := Option.some.inj (k3.symm.trans hcls.1)
  subst hcomp
  obtain ⟨kC, hkC, -⟩ := hcls.2
  refine W.aast hx hb hc (fun q h => by cases h) (fun h => by cases h) k1 k2 rfl hkC ⟨h0, by show _ < (arrV _ _ _).slots.size; rw [arrV_size]; exact h2⟩ g1 (fun q h => by rw [g3] at h; cases h) (by rw [g2]; exact hkC) (by rw [g2]; exact va_assign hcls) rfl rfl hd fun H1 e z oq => ?_
  refine kk H1 _ (q_R_put hR (List.getElem?_eq_some_iff.mp hs).1 z oq ?_ (fun _ _ => rfl)) (hH.put z oq)
  show H1[base + id]? = _
  rw [e, arrV_store, List.length_set]
  congr 2
  funext j
  by_cases hj : j = i.toNatClampNeg
  · subst hj
    simp [updV, List.getD_eq_getElem?_getD, List.getElem?_set, h2, q_ra, q_cv]
  · have hj' : ¬ i.toNatClampNeg = j := fun q => hj q.symm
    simp [updV, hj, List.getD_eq_getElem?_getD, List.getElem?_set, hj']
theorem q_w_new (hx : p.tables.exec = Jvm.exec) (hb : c.code = cc) {own : String} (hown : s.vm.findClass own = some m.cls) (hts : ∀ w ∈ q_tb, w.before args s = true) (hK : q_K G s) (hR : q_R G base mm H) (hH : q_H base s H locs)
    {idx ci wp : Nat} (hA : q_okA own idx ci wp = true) (hini : ∀ r, vwCl[ci]? = some r → Cond.instantiable r.1 r.2.2 ∈ q_tb ∧ Cond.initialized r.1 ∈ q_tb) (hcells : cells + 1 ≤ R.cells) (hslots : slots + (q_born ci).length ≤ R.slots) (hd : decode cc pc = .ok (.new idx, 3))
    (kk : ∀ H' locs', q_R G base (mm.1 ++ [.inr (.inl (ci, q_born ci))], q_up mm.2 mm.1.length (fun _ => 0)) H' → q_H base s H' locs' → W p l e R s m args below meth c H' locs' (cells + 1) (slots + (q_born ci).length) Q (F0 m (pc + 3) ls (.ref (base + mm.1.length) :: rest))) : W p l e R s m args below meth c H locs cells slots Q (F0 m pc ls rest) := by
  cases hr : vwCl[ci]? with
  | none => simp [q_okA, hr] at hA
  | some r =>
    obtain ⟨hin1, hnm, ty0, hty, hty2⟩ := q_cls_ok _ _ hr
    obtain ⟨hi1, hi2⟩ := hini r hr
    obtain ⟨C, T, N⟩ := r
    simp only [q_okA, hr, decide_eq_true_eq] at hA
    have hKn := hK.1 ci _ hr
    have hlen : (q_born ci).length = N := by simp [q_born, hr]
    rw [hlen] at hslots kk
    refine W.newcK hx hb hown (hts _ (q_w_in hA rfl)) (hts _ hi1) (hts _ hi2) rfl hd hcells hslots hKn.2.1 rfl fun H1 kC hkC e1 z1 o1 => ?_
    rw [hR.1] at e1 z1 o1
    have hg := kk H1 locs (q_R_push hR (by rw [z1, hR.1]) (by rw [hR.1]; exact o1) ⟨_, hr, (u_born ty0 hts hin1 hKn hkC e1 hty).to (fun j hj => ?_)⟩ (fun j hj => q_up_ne _ _ hj)) (hH.push (by rw [hR.1]; omega) (by rw [z1, hR.1]) (by rw [hR.1]; exact o1))
    · show W p l e R s m args below meth c H1 locs (cells + 1) (slots + N) Q (F0 m (pc + 3) ls (.ref (Array.size H) :: rest))
      rw [show Array.size H = base + mm.1.length from hR.1]
      exact hg
    · have e0 := hty j hj
      simp only at e0
      have hb1 : (q_born ci)[j]? = some (match parseFieldDescriptor (T j).2.2.1 with | some .int => none | _ => some none) := by
        simp only [q_born, hr]
        rw [List.getElem?_map, List.getElem?_range hj]
        rfl
      simp only [q_cF, hb1]
      rw [e0]
      have h2 := hty2 j hj
      revert h2
      cases ty0 j <;> intro h2 <;> first | (show _ = q_cv base 0 (.int (q_up mm.2 mm.1.length (fun _ => 0) mm.1.length j)); rw [q_up_at]; rfl) | rfl | (rcases h2 with h2 | h2 <;> cases h2)
theorem q_w_nar (hx : p.tables.exec = Jvm.exec) (hb : c.code = cc) (hts : ∀ w ∈ q_tb, w.before args s = true) (hK : q_K G s) (hR : q_R G base mm H) (hH : q_H base s H locs)
    {n : Int32} {bo : Bool} (hn : ¬ n < 0) (hbytes : n.toNatClampNeg ≤ 100000) (hcells : cells + 1 ≤ R.cells) (hslots : slots + n.toNatClampNeg ≤ R.slots) (hd : decode cc pc = .ok (.newarray (bif bo then .boolean else .int), 2))
    (hw : Cond.arrayClass .int ∈ q_tb ∧ Cond.arrayClass .boolean ∈ q_tb)
    (kk : ∀ H' locs', q_R G base (mm.1 ++ [.inl (bo, n.toNatClampNeg)], q_up mm.2 mm.1.length (fun _ => 0)) H' → q_H base s H' locs' → W p l e R s m args below meth c H' locs' (cells + 1) (slots + n.toNatClampNeg) Q (F0 m (pc + 2) ls (.ref (base + mm.1.length) :: rest))) : W p l e R s m args below meth c H locs cells slots Q (F0 m pc ls (.int n :: rest)) := by
  cases bo with
  | false =>
    refine va_newaK (atype := .int) hx hb (hts _ hw.1) rfl hd rfl hn rfl (by show _ * 4 ≤ _; omega) hcells hslots hR.1 fun H1 cA e1 z1 o1 hAr hNm => ?_
    have hcA : cA = G.2.2 0 := Option.some.inj (hNm.symm.trans hK.2.1.2)
    subst hcA
    refine kk H1 locs (q_R_push hR (by rw [z1, hR.1]) (by rw [hR.1]; exact o1) ?_ (fun j hj => q_up_ne _ _ hj)) (hH.push (by rw [hR.1]; omega) (by rw [z1, hR.1]) (by rw [hR.1]; exact o1))
    show H1[_]? = _
    rw [e1, q_up_at]; rfl
  | true =>
    refine va_newaK (atype := .boolean) hx hb (hts _ hw.2) rfl hd rfl hn rfl (by show _ * 1 ≤ _; omega) hcells hslots hR.1 fun H1 cA e1 z1 o1 hAr hNm => ?_
    have hcA : cA = G.2.2 1 := Option.some.inj (hNm.symm.trans hK.2.2.1.2)
    subst hcA
    refine kk H1 locs (q_R_push hR (by rw [z1, hR.1]) (by rw [hR.1]; exact o1) ?_ (fun j hj => q_up_ne _ _ hj)) (hH.push (by rw [hR.1]; omega) (by rw [z1, hR.1]) (by rw [hR.1]; exact o1))
    show H1[_]? = _
    rw [e1, q_up_at]; rfl
theorem q_w_nqr (hx : p.tables.exec = Jvm.exec) (hb : c.code = cc) {own : String} (hown : s.vm.findClass own = some m.cls) (hts : ∀ w ∈ q_tb, w.before args s = true) (hK : q_K G s) (hR : q_R G base mm H) (hH : q_H base s H locs)
    {n : Int32} {idx ci wp : Nat} (hA : q_okA own idx ci wp = true) (hci : ci = 0 ∨ ci = 5) (hn : ¬ n < 0) (hbytes : n.toNatClampNeg ≤ 100000) (hcells : cells + 1 ≤ R.cells) (hslots : slots + n.toNatClampNeg ≤ R.slots) (hd : decode cc pc = .ok (.anewarray idx, 3))
    (kk : ∀ H' locs', q_R G base (mm.1 ++ [.inr (.inr (ci, List.replicate n.toNatClampNeg none))], q_up mm.2 mm.1.length (fun _ => 0)) H' → q_H base s H' locs' → W p l e R s m args below meth c H' locs' (cells + 1) (slots + n.toNatClampNeg) Q (F0 m (pc + 3) ls (.ref (base + mm.1.length) :: rest))) : W p l e R s m args below meth c H locs cells slots Q (F0 m pc ls (.int n :: rest)) := by
  cases hr : vwCl[ci]? with
  | none => simp [q_okA, hr] at hA
  | some r =>
    obtain ⟨C, T, N⟩ := r
    simp only [q_okA, hr, decide_eq_true_eq] at hA
    have hq := hK.2.2.2.1 ci _ hci hr
    refine W.anew hx hb hown (hts _ (q_w_in hA rfl)) (va_AO.use hq.1) rfl hd rfl hn (by omega) hcells hslots fun cA kA comp f1 f2 f3 f4 => ?_
    generalize hH1 : H.push ({ cls := cA, slots := Array.replicate n.toNatClampNeg .null, vm := .none } : Cell) = H1
    have z1 : H1.size = H.size + 1 := by rw [← hH1, Array.size_push]
    have e1 : H1[H.size]? = some (arrV cA n.toNatClampNeg (fun _ => .null)) := by rw [← hH1, Array.getElem?_push_size, ← arrV_new]
    have o1 : ∀ q : Nat, q < H.size → H1[q]? = H[q]? := fun q hq => by rw [← hH1, Array.getElem?_push, if_neg (Nat.ne_of_lt hq)]
    obtain ⟨_, _, _, _, _, hfc⟩ := hq.2.2
    have hcA : cA = G.2.2 (2 + ci) := Option.some.inj (f1.symm.trans hfc)
    subst hcA
    have hg := kk H1 locs (q_R_push hR z1 o1 ?_ (fun j hj => q_up_ne _ _ hj)) (hH.push (by rw [hR.1]; omega) z1 o1)
    · show W p l e R s m args below meth c H1 locs (cells + 1) (slots + _) Q (F0 m (pc + 3) ls (.ref (Array.size H) :: rest))
      rw [show Array.size H = base + mm.1.length from hR.1]
      exact hg
    · show H1[_]? = _
      rw [← hR.1, e1, List.length_replicate]
      congr 2
      funext j
      by_cases hj : j < n.toNatClampNeg
      · simp [List.getD_eq_getElem?_getD, List.getElem?_replicate, hj, q_ra, q_cv]
      · simp [List.getD_eq_getElem?_getD, List.getElem?_replicate, hj, q_ra, q_cv]
theorem q_w_copy (hx : p.tables.exec = Jvm.exec) (hb : c.code = cc) (hml : c.maxLocals = ls.size) {own : String} (hown : s.vm.findClass own = some m.cls) (hts : ∀ w ∈ q_tb, w.before args s = true) (hK : q_K G s) (hR : q_R G base mm H) (hH : q_H base s H locs)
    {idx wp sr ds ns nd : Nat} (hw : q_w wp = some (.methodLink own idx arraycopyName)) (hws : Cond.native arraycopyName ∈ q_tb ∧ Cond.static arraycopyName ∈ q_tb ∧ Cond.initialized "java/lang/System" ∈ q_tb)
    (h0 : mm.1[sr]? = some (.inl (false, ns))) (h1 : mm.1[ds]? = some (.inl (false, nd))) {sp dp n : Int32} (hsp : ¬ sp < 0) (hdp : ¬ dp < 0) (hn : ¬ n < 0) (h4 : sp.toNatClampNeg + n.toNatClampNeg ≤ ns) (h5 : dp.toNatClampNeg + n.toNatClampNeg ≤ nd)
    (hframes : 1 ≤ R.frames) (hlocals : q_cs rest + 18 ≤ R.locals) (hd : decode cc pc = .ok (.invokestatic idx, 3))
    (kk : ∀ H' locs', q_R G base (mm.1, q_up mm.2 ds (va_cpy (mm.2 sr) (mm.2 ds) sp.toNatClampNeg dp.toNatClampNeg n.toNatClampNeg)) H' → q_H base s H' locs' → W p l e R s m args below meth c H' locs' cells slots Q (F0 m (pc + 3) ls rest)) : W p l e R s m args below meth c H locs cells slots Q (F0 m pc ls (.int n :: .int dp :: .ref (base + ds) :: .int sp :: .ref (base + sr) :: rest)) := by
  have nn : ∀ z : Int32, ¬ z < 0 → z.toInt = (z.toNatClampNeg : Int) := by
    intro z hz
    have hz0 : (0 : Int) ≤ z.toInt := by
      have := Int32.not_lt.mp hz
      simpa using Int32.le_iff_toInt_le.mp this
    show z.toInt = ((z.toInt.toNat : Nat) : Int)
    omega
  intro T hT X
  have hc0 := hR.2 _ _ h0
  have hc1 := hR.2 _ _ h1
  simp only [q_cell, cond_false] at hc0 hc1
  obtain ⟨-, k0, hk0, cm0, hkk0⟩ := hK.2.1.1 ns (fun j => .int (mm.2 sr j))
  obtain ⟨-, k1, hk1, cm1, hkk1⟩ := hK.2.1.1 nd (fun j => .int (mm.2 ds j))
  obtain ⟨vm', X', step⟩ := X.arraycopy hx hown (hts _ (q_w_in hw rfl)) (hts _ hws.1) (hts _ hws.2.1) (hts _ hws.2.2) (src := base + sr) (dst := base + ds) (srcPos := sp) (destPos := dp) (n := n) (by rw [hT]; exact hc0) (by rw [hT]; exact hc1)
    (fun _ h => by cases h) (fun _ h => by cases h) (fun h => by cases h) (fun h => by cases h) hk0 hk1 hkk0 hkk1 (by simp [refKind]) hsp hdp hn
    (by rw [nn sp hsp, nn n hn, arrV_size]; omega)
    (by rw [nn dp hdp, nn n hn, arrV_size]; omega)
    (fun vm₁ _ i hi => by
      have e : (arrV (G.2.2 0) ns (fun j => .int (mm.2 sr j))).slots.getD (sp.toNatClampNeg + i) .null = .int (mm.2 sr (sp.toNatClampNeg + i)) := by
        rw [Array.getD_eq_getD_getElem?, arrV_read _ _ (by omega)]
        rfl
      refine ⟨?_, ?_⟩
      · rw [e]; rfl
      · rw [e]; exact trivial)
    (g := F0 m pc ls (.int n :: .int dp :: .ref (base + ds) :: .int sp :: .ref (base + sr) :: rest)) rfl (by rw [hml]) (rest := rest) rfl (by rw [hb]; exact hd) hframes (by
      have e1 : nativeFrameWords "java/lang/System" "arraycopy" 5 = 7 := by decide +kernel
      show 2 * 0 + q_cs rest + (nativeFrameWords "java/lang/System" "arraycopy" 5 + 11) ≤ _
      rw [e1]; omega)
  have e1 : copied (arrV (G.2.2 0) ns (fun j => .int (mm.2 sr j))) (arrV (G.2.2 0) nd (fun j => .int (mm.2 ds j))) sp dp n = arrV (G.2.2 0) nd (fun j => .int (va_cpy (mm.2 sr) (mm.2 ds) sp.toNatClampNeg dp.toNatClampNeg n.toNatClampNeg j)) := va_copied (fun z => .int z) _ _ _ _ h4
  rw [e1] at X' step
  have hl : base + ds < H.size := (Array.getElem?_eq_some_iff.mp hc1).1
  generalize hcell : arrV (G.2.2 0) nd (fun j => .int (va_cpy (mm.2 sr) (mm.2 ds) sp.toNatClampNeg dp.toNatClampNeg n.toNatClampNeg j)) = cell at X' step
  have hheap : ((T.setVm vm').setCell (base + ds) cell).heap = H.setIfInBounds (base + ds) cell := by rw [← hT]; rfl
  have oq : ∀ q : Nat, q ≠ base + ds → (H.setIfInBounds (base + ds) cell)[q]? = H[q]? := fun q hq => by simp [Array.getElem?_setIfInBounds, Ne.symm hq]
  obtain ⟨t, a1, b1⟩ := kk _ _ (q_R_put0 hR h1 (by simp) oq (by
      show (H.setIfInBounds (base + ds) cell)[base + ds]? = _
      rw [q_up_at, ← hcell]
      simp [Array.getElem?_setIfInBounds, hl]) (fun j hj => q_up_ne _ _ hj)) ⟨fun q hq => (oq q (by omega)).trans (hH.1 q hq), fun q hq => by
      rcases List.mem_append.mp hq with h | h
      · exact hH.2.1 q h
      · obtain ⟨z, -, hz⟩ := List.mem_map.mp h
        rw [← hz]
        exact Nat.le_add_right _ _, by rw [Array.size_setIfInBounds]; exact hH.2.2⟩ _ hheap X'
  exact ⟨t, step t a1, b1⟩
end QA
