theorem q_nxt_of {cd : List q_Ent} {i n : Nat} (h : q_nxt cd i n = true) : ∃ e, cd[i + 1]? = some e ∧ e.1 = n := by
  unfold q_nxt at h
  split at h
  · rename_i e he; exact ⟨e, he, Nat.eq_of_beq_eq_true h⟩
  · cases h
theorem q_tgt_of {cd : List q_Ent} {a pc : Nat} {off : Int} (h : q_tgt cd a pc off = true) : ∃ e, cd[a]? = some e ∧ (pc : Int) + off = (e.1 : Int) := by
  unfold q_tgt at h
  split at h
  · rename_i e he; exact ⟨e, he, of_decide_eq_true h⟩
  · cases h
theorem q_bif {α : Type} {b : Bool} {x : Option α} {y : α} (h : (bif b then x else none) = some y) : b = true ∧ x = some y := by
  cases b
  · cases h
  · exact ⟨rfl, h⟩
theorem q_ld_of {ty n : Nat} {fr : q_Fr} {m : q_Mm} {o : q_Out} (h : q_ld ty n fr m = some o) : ∃ v, fr.2.1[n]? = some (some v) ∧ q_ty v = ty ∧ o = .inl (q_nx fr (v :: fr.2.2.1), m) := by
  unfold q_ld at h
  split at h
  · rename_i v hv
    obtain ⟨h1, h2⟩ := q_bif h
    cases h2
    exact ⟨v, hv, Nat.eq_of_beq_eq_true h1, rfl⟩
  · cases h
theorem q_sto_of {ty n : Nat} {fr : q_Fr} {m : q_Mm} {o : q_Out} (h : q_sto ty n fr m = some o) : ∃ v r, fr.2.2.1 = v :: r ∧ q_ty v = ty ∧ q_okst fr.2.1 n = true ∧ n < fr.2.1.length ∧ o = .inl ((fr.1 + 1, fr.2.1.set n (some v), r, fr.2.2.2), m) := by
  unfold q_sto at h
  split at h
  · rename_i v r hv
    obtain ⟨h1, h2⟩ := q_bif h
    cases h2
    simp only [Bool.and_eq_true, Nat.blt_eq] at h1
    exact ⟨v, r, hv, Nat.eq_of_beq_eq_true h1.1, h1.2.1, h1.2.2, rfl⟩
  · cases h
theorem q_ty0 {v : Value} (h : q_ty v = 0) : ∃ x, v = .int x := by
  cases v <;> first | exact ⟨_, rfl⟩ | cases h
theorem q_ty1 {v : Value} (h : q_ty v = 1) : ∃ x, v = .long x := by
  cases v <;> first | exact ⟨_, rfl⟩ | cases h
theorem q_ty2 {v : Value} (h : q_ty v = 2) (base b : Nat) : (∃ x, q_cv base b v = .ref x) ∧ v.category = 1 := by
  cases v <;> first | exact ⟨⟨_, rfl⟩, rfl⟩ | cases h
theorem q_inst_ok : ∀ (ci : Nat) (r : vw_C), vwCl[ci]? = some r → Cond.instantiable r.1 r.2.2 ∈ q_tb ∧ Cond.initialized r.1 ∈ q_tb := by
  intro ci r h
  match ci, h with
  | 0, h => cases h; decide +kernel
  | 1, h => cases h; decide +kernel
  | 2, h => cases h; decide +kernel
  | 3, h => cases h; decide +kernel
  | 4, h => cases h; decide +kernel
  | 5, h => cases h; decide +kernel
  | 6, h => cases h; decide +kernel
  | 7, h => cases h; decide +kernel
  | 8, h => cases h; decide +kernel
  | 9, h => cases h; decide +kernel
  | n + 10, h => simp [vwCl] at h
theorem q_arr_ok : Cond.arrayClass .int ∈ q_tb ∧ Cond.arrayClass .boolean ∈ q_tb := by decide +kernel
theorem q_cpy_ok : Cond.native arraycopyName ∈ q_tb ∧ Cond.static arraycopyName ∈ q_tb ∧ Cond.initialized "java/lang/System" ∈ q_tb := by decide +kernel
theorem q_min_ok : Cond.static Lib.Math.min.name ∈ q_tb ∧ Cond.initialized "java/lang/Math" ∈ q_tb ∧ Cond.code Lib.Math.min.name Lib.Math.min.code 2 (some .int) ∈ q_tb := by decide +kernel
theorem q_obj_ok : Cond.instanceMethod objectInit ∈ q_tb ∧ Cond.code objectInit ⟨#[0xb1]⟩ 1 none ∈ q_tb := by decide +kernel
theorem q_inv_no {k a b c : Nat} {fr : q_Fr} {m : q_Mm} {x : q_Fr × q_Mm} (h : q_inv k a b c fr m = some (.inl x)) : False := by
  unfold q_inv at h
  obtain ⟨-, h⟩ := q_bif h
  cases h
theorem q_cs_map (base b : Nat) (r : List Value) : q_cs (r.map (q_cv base b)) = q_cs r := by
  unfold q_cs
  rw [List.map_map]
  congr 1
  exact List.map_congr_left fun v _ => q_cv_cat base b v
section QT
variable {p : Program} {l : Launch} {e : Env} {s : State} {m : MethodId} {args : Array Value} {below : List Frame} {meth : Method} {c : Code} {Q : State → Prop}
variable {base b : Nat} {G : q_G} {X : q_X} {k : Nat}
/-- the walk of method k from an abstract state -/
def q_W (G : q_G) (base b k : Nat) (p : Program) (l : Launch) (e : Env) (s : State) (m : MethodId) (args : Array Value) (below : List Frame) (meth : Method) (c : Code) (Q : State → Prop) (fr : q_Fr) (mm : q_Mm) : Prop :=
  ∀ ent : q_Ent, (q_cd k)[fr.1]? = some ent → ∀ (H : Heap) (locs : List Loc) (ls : Array Slot), q_R G base mm H → q_H base s H locs → q_L base b ls (q_mi k).2.2.1 fr.2.1 →
    W p l e (q_rm k) s m args below meth c H locs fr.2.2.2.1 fr.2.2.2.2 Q (F0 m ent.1 ls (fr.2.2.1.map (q_cv base b)))
set_option maxHeartbeats 8000000 in
theorem q_step_ok (hk : k ≤ 205) (C : q_C G base b X k p s m args meth c) {fr fr' : q_Fr} {mm mm' : q_Mm} (h : q_step X k fr mm = some (.inl (fr', mm'))) (kk : q_W G base b k p l e s m args below meth c Q fr' mm') : q_W G base b k p l e s m args below meth c Q fr mm := by
  intro ent he H locs ls hR hH hL
  obtain ⟨hx, hb, hml, hown, hts, hinit, hK, hbase, hX⟩ := C
  have hE := q_okE_at k hk _ _ he
  simp only [q_step, he] at h
  obtain ⟨pc, len, ins, a, b', c', d'⟩ := ent
  obtain ⟨i, al, st, cu, su⟩ := fr
  simp only [q_okE, Bool.and_eq_true, decide_eq_true_eq] at hE
  obtain ⟨hd, hI⟩ := hE
  dsimp only at h hd hI hL ⊢
  have nx : ∀ {n : Nat} {al2 : List (Option Value)} {st2 : List Value} {cu2 su2 : Nat}, q_nxt (q_cd k) i n = true → fr' = (i + 1, al2, st2, cu2, su2) → ∀ (H' : Heap) (locs' : List Loc) (ls' : Array Slot), q_R G base mm' H' → q_H base s H' locs' → q_L base b ls' (q_mi k).2.2.1 al2 →
      W p l e (q_rm k) s m args below meth c H' locs' cu2 su2 Q (F0 m n ls' (st2.map (q_cv base b))) := by
    intro n al2 st2 cu2 su2 hn hf H' locs' ls' r1 r2 r3
    subst hf
    obtain ⟨e', h1, h2⟩ := q_nxt_of hn
    rw [← h2]
    exact kk e' h1 H' locs' ls' r1 r2 r3
  unfold q_ins at h
  split at h
  · -- iload_n
    simp only [q_okI, Bool.and_eq_true, Nat.beq_eq] at hI
    obtain ⟨rfl, hn⟩ := hI
    obtain ⟨v, h1, h2, h3⟩ := q_ld_of h
    obtain ⟨x, rfl⟩ := q_ty0 h2
    cases h3
    exact lv_iload_n hx hb hd rfl (hL.2.2.2 _ _ h1) (nx hn rfl _ _ _ hR hH hL)
  · -- iload
    simp only [q_okI, Bool.and_eq_true, Nat.beq_eq] at hI
    obtain ⟨rfl, hn⟩ := hI
    obtain ⟨v, h1, h2, h3⟩ := q_ld_of h
    obtain ⟨x, rfl⟩ := q_ty0 h2
    cases h3
    exact lv_iload hx hb hd (hL.2.2.2 _ _ h1) (nx hn rfl _ _ _ hR hH hL)
  · -- lload_n
    simp only [q_okI, Bool.and_eq_true, Nat.beq_eq] at hI
    obtain ⟨rfl, hn⟩ := hI
    obtain ⟨v, h1, h2, h3⟩ := q_ld_of h
    obtain ⟨x, rfl⟩ := q_ty1 h2
    cases h3
    exact lv_lload_n hx hb hd rfl (hL.2.2.2 _ _ h1) (nx hn rfl _ _ _ hR hH hL)
  · -- lload
    simp only [q_okI, Bool.and_eq_true, Nat.beq_eq] at hI
    obtain ⟨rfl, hn⟩ := hI
    obtain ⟨v, h1, h2, h3⟩ := q_ld_of h
    obtain ⟨x, rfl⟩ := q_ty1 h2
    cases h3
    exact lv_lload hx hb hd (hL.2.2.2 _ _ h1) (nx hn rfl _ _ _ hR hH hL)
  · -- aload_n
    simp only [q_okI, Bool.and_eq_true, Nat.beq_eq] at hI
    obtain ⟨rfl, hn⟩ := hI
    obtain ⟨v, h1, h2, h3⟩ := q_ld_of h
    obtain ⟨⟨x, hv⟩, -⟩ := q_ty2 h2 base b
    cases h3
    have hl := hL.2.2.2 _ _ h1
    have kk1 := nx hn rfl _ _ _ hR hH hL
    simp only [q_nx, List.map_cons, hv] at hl kk1
    exact lv_aload_n hx hb hd rfl hl kk1
  · -- istore_n
    simp only [q_okI, Bool.and_eq_true, Nat.beq_eq] at hI
    obtain ⟨rfl, hn⟩ := hI
    obtain ⟨v, r, h0, h1, h2, h3, h4⟩ := q_sto_of h
    obtain ⟨x, rfl⟩ := q_ty0 h1
    cases h4
    dsimp only at h0 h2 h3
    subst h0
    exact lv_istore_n hx hb hd rfl (q_al_has hL) (by rw [← hL.2.2.1]; exact h3) rfl (fun ls' h' => nx hn rfl _ _ _ hR hH (q_L_of hL h2 h3 h'))
  · -- istore
    simp only [q_okI, Bool.and_eq_true, Nat.beq_eq] at hI
    obtain ⟨rfl, hn⟩ := hI
    obtain ⟨v, r, h0, h1, h2, h3, h4⟩ := q_sto_of h
    obtain ⟨x, rfl⟩ := q_ty0 h1
    cases h4
    dsimp only at h0 h2 h3
    subst h0
    exact lv_istore hx hb hd (q_al_has hL) (by rw [← hL.2.2.1]; exact h3) rfl (fun ls' h' => nx hn rfl _ _ _ hR hH (q_L_of hL h2 h3 h'))
  · -- astore_n
    simp only [q_okI, Bool.and_eq_true, Nat.beq_eq] at hI
    obtain ⟨rfl, hn⟩ := hI
    obtain ⟨v, r, h0, h1, h2, h3, h4⟩ := q_sto_of h
    obtain ⟨⟨x, hv⟩, -⟩ := q_ty2 h1 base b
    cases h4
    dsimp only at h0 h2 h3
    subst h0
    simp only [List.map_cons, hv]
    exact lv_astore_n hx hb hd rfl (q_al_has hL) (by rw [← hL.2.2.1]; exact h3) rfl (fun ls' h' => nx hn rfl _ _ _ hR hH (q_L_of hL h2 h3 (by rw [hv]; exact h')))
  · -- iinc
    simp only [q_okI, Bool.and_eq_true, Nat.beq_eq] at hI
    obtain ⟨rfl, hn⟩ := hI
    unfold q_inc at h
    split at h
    · rename_i x hxv
      obtain ⟨h1, h2⟩ := q_bif h
      cases h2
      simp only [Bool.and_eq_true, Nat.blt_eq] at h1
      obtain ⟨j, hj⟩ := List.getElem?_of_mem (q_al_mem (base := base) (b := b) hxv)
      exact lv_iinc hx hb hd (q_al_has hL) hj rfl (by rw [← hL.2.2.1]; exact h1.2) rfl (fun ls' h' => nx hn rfl _ _ _ hR hH (q_L_of hL h1.1 h1.2 h'))
    · cases h
  · -- getfield
    simp only [q_okI, Bool.and_eq_true, Nat.beq_eq] at hI
    obtain ⟨⟨rfl, hn⟩, hF⟩ := hI
    unfold q_get at h
    split at h
    · rename_i id r hst
      split at h
      · rename_i cj fs hs
        have hz := q_bif h; clear h; obtain ⟨h1, h⟩ := hz
        obtain rfl := Nat.eq_of_beq_eq_true h1
        split at h
        · rename_i o ho
          cases h
          dsimp only at hst
          subst hst
          exact q_w_get hx hb hown hts hK hR hs ho hF hd (nx hn rfl _ _ _ hR hH hL)
        · cases h
      · cases h
    · cases h
  · -- putfield
    simp only [q_okI, Bool.and_eq_true, Nat.beq_eq] at hI
    obtain ⟨⟨⟨rfl, hn⟩, hF⟩, hPp⟩ := hI
    unfold q_put at h
    split at h
    · rename_i v id r hst
      split at h
      · rename_i cj fs hs
        have hz := q_bif h; clear h; obtain ⟨h1, h⟩ := hz
        obtain rfl := Nat.eq_of_beq_eq_true h1
        dsimp only at hst
        subst hst
        split at h
        · rename_i x hfs
          have hz := q_bif h; clear h; obtain ⟨h2, h⟩ := hz
          have h2 := Nat.eq_of_beq_eq_true h2
          cases h
          refine q_w_put hx hb hown hts hK hR hs hF hPp (fun q => hinit (of_decide_eq_true q)) (Or.inl ⟨h2, x, rfl⟩) hd (fun H' j e2 e3 hc => nx hn rfl _ _ _ (q_R_put0 hR hs e2 e3 ?_ (fun j hj => q_up_ne _ _ hj)) (hH.put e2 e3) hL)
          obtain ⟨r', hr', ho⟩ := hc
          refine ⟨r', hr', ho.to (fun j hj => ?_)⟩
          by_cases e : j = b'
          · subst e
            simp only [updV, if_pos, q_cF, hfs, q_fv, q_up_at, upd, q_cv]
          · simp only [updV, if_neg e, q_cF]
            split
            · rename_i o _
              cases o with
              | none => simp only [q_fv, q_up_at, upd, if_neg e]
              | some o => cases o <;> rfl
            · rfl
        · rename_i o q hfs
          have hz := q_bif h; clear h; obtain ⟨h2, h⟩ := hz
          have h2 := Nat.eq_of_beq_eq_true h2
          cases h
          have hlt := (List.getElem?_eq_some_iff.mp hs).1
          refine q_w_put hx hb hown hts hK hR hs hF hPp (fun q => hinit (of_decide_eq_true q)) (Or.inr ⟨h2, _, rfl⟩) hd (fun H' j e2 e3 hc => nx hn rfl _ _ _ (q_R_put hR hlt e2 e3 ?_ (fun _ _ => rfl)) (hH.put e2 e3) hL)
          obtain ⟨r', hr', ho⟩ := hc
          refine ⟨r', hr', ho.to (fun j hj => ?_)⟩
          have hbl := (List.getElem?_eq_some_iff.mp hfs).1
          by_cases e : j = b'
          · subst e
            simp [updV, q_cF, List.getElem?_set, hbl, q_fv, q_cv]
          · have e' : ¬ b' = j := fun z => e z.symm
            simp only [updV, if_neg e, q_cF, List.getElem?_set, if_neg e']
        · cases h
      · cases h
    · cases h
  · -- iaload
    simp only [q_okI, Bool.and_eq_true, Nat.beq_eq] at hI
    obtain ⟨rfl, hn⟩ := hI
    unfold q_ald at h
    split at h
    · rename_i j id r hst
      split at h
      · rename_i bb n hs
        have hz := q_bif h; clear h; obtain ⟨h1, h⟩ := hz
        rw [Bool.and_eq_true] at h1
        obtain rfl := eq_of_beq h1.1
        cases h
        dsimp only at hst
        subst hst
        exact q_w_iald (bo := false) hx hb hK hR hs h1.2 hd (nx hn rfl _ _ _ hR hH hL)
      · cases h
    · rename_i j z r hst
      split at h
      · rename_i n xs
        have hz := q_bif h; clear h; obtain ⟨h1, h⟩ := hz
        rw [Bool.and_eq_true] at h1
        cases h
        dsimp only at hst
        subst hst
        obtain ⟨hX1, hX2⟩ := hX _ _ rfl
        exact va_sld (A := fun q => base ≤ q) (H0 := s.heap) hx hb hX1 (Nat.lt_of_lt_of_le hX2 hbase) (Nat.not_le.mpr hX2) ⟨hH.2.2, fun q _ h2 => hH.1 q (Nat.not_le.mp h2), hH.2.1⟩ (q_in_of h1.2).1 hd (nx hn rfl _ _ _ hR hH hL)
      · cases h
    · cases h
  · -- baload
    simp only [q_okI, Bool.and_eq_true, Nat.beq_eq] at hI
    obtain ⟨rfl, hn⟩ := hI
    unfold q_ald at h
    split at h
    · rename_i j id r hst
      split at h
      · rename_i bb n hs
        have hz := q_bif h; clear h; obtain ⟨h1, h⟩ := hz
        rw [Bool.and_eq_true] at h1
        obtain rfl := eq_of_beq h1.1
        cases h
        dsimp only at hst
        subst hst
        exact q_w_iald (bo := true) hx hb hK hR hs h1.2 hd (nx hn rfl _ _ _ hR hH hL)
      · cases h
    · rename_i j z r hst
      split at h
      · rename_i n xs
        have hz := q_bif h; clear h; obtain ⟨h1, h⟩ := hz
        rw [Bool.and_eq_true] at h1
        exact absurd h1.1 (by decide)
      · cases h
    · cases h
  · -- iastore
    simp only [q_okI, Bool.and_eq_true, Nat.beq_eq] at hI
    obtain ⟨rfl, hn⟩ := hI
    unfold q_ast at h
    split at h
    · rename_i x j id r hst
      split at h
      · rename_i bb n hs
        have hz := q_bif h; clear h; obtain ⟨h1, h⟩ := hz
        rw [Bool.and_eq_true] at h1
        obtain rfl := eq_of_beq h1.1
        cases h
        dsimp only at hst
        subst hst
        exact q_w_iast (bo := false) hx hb hK hR hH hs h1.2 hd (fun H' locs' r1 r2 => nx hn rfl _ _ _ r1 r2 hL)
      · cases h
    · cases h
  · -- bastore
    simp only [q_okI, Bool.and_eq_true, Nat.beq_eq] at hI
    obtain ⟨rfl, hn⟩ := hI
    unfold q_ast at h
    split at h
    · rename_i x j id r hst
      split at h
      · rename_i bb n hs
        have hz := q_bif h; clear h; obtain ⟨h1, h⟩ := hz
        rw [Bool.and_eq_true] at h1
        obtain rfl := eq_of_beq h1.1
        cases h
        dsimp only at hst
        subst hst
        exact q_w_iast (bo := true) hx hb hK hR hH hs h1.2 hd (fun H' locs' r1 r2 => nx hn rfl _ _ _ r1 r2 hL)
      · cases h
    · cases h
  · -- aaload
    simp only [q_okI, Bool.and_eq_true, Nat.beq_eq] at hI
    obtain ⟨rfl, hn⟩ := hI
    unfold q_qld at h
    split at h
    · rename_i j id r hst
      split at h
      · rename_i ci rs hs
        have hz := q_bif h; clear h; obtain ⟨h1, h⟩ := hz
        simp only [Bool.and_eq_true, Bool.or_eq_true, Nat.beq_eq] at h1
        cases h
        dsimp only at hst
        subst hst
        exact q_w_aald hx hb hK hR hs h1.1 h1.2 hd (nx hn rfl _ _ _ hR hH hL)
      · cases h
    · cases h
  · -- aastore
    simp only [q_okI, Bool.and_eq_true, Nat.beq_eq] at hI
    obtain ⟨rfl, hn⟩ := hI
    unfold q_qst at h
    split at h
    · rename_i v j id r hst
      split at h
      · rename_i ci rs cj fs hs hv
        have hz := q_bif h; clear h; obtain ⟨h1, h⟩ := hz
        simp only [Bool.and_eq_true, Bool.or_eq_true, Nat.beq_eq] at h1
        obtain ⟨hci, rfl, hin⟩ := h1
        cases h
        dsimp only at hst
        subst hst
        exact q_w_aast hx hb hK hR hH hs hv hci hin hd (fun H' locs' r1 r2 => nx hn rfl _ _ _ r1 r2 hL)
      · cases h
    · cases h
  · -- arraylength
    simp only [q_okI, Bool.and_eq_true, Nat.beq_eq] at hI
    obtain ⟨rfl, hn⟩ := hI
    unfold q_len at h
    split at h
    · rename_i id r hst
      split at h
      · rename_i bb n hs
        cases h
        dsimp only at hst
        subst hst
        exact q_w_len hx hb hK hR hs hd (nx hn rfl _ _ _ hR hH hL)
      · cases h
    · rename_i z r hst
      split at h
      · rename_i n xs
        cases h
        dsimp only at hst
        subst hst
        obtain ⟨hX1, hX2⟩ := hX _ _ rfl
        exact va_slen (A := fun q => base ≤ q) (H0 := s.heap) hx hb hX1 (Nat.lt_of_lt_of_le hX2 hbase) (Nat.not_le.mpr hX2) ⟨hH.2.2, fun q _ h2 => hH.1 q (Nat.not_le.mp h2), hH.2.1⟩ hd (nx hn rfl _ _ _ hR hH hL)
      · cases h
    · cases h
  · -- new
    simp only [q_okI, Bool.and_eq_true, Nat.beq_eq] at hI
    obtain ⟨⟨rfl, hn⟩, hA⟩ := hI
    have hz := q_bif h; clear h; obtain ⟨h1, h⟩ := hz
    simp only [Bool.and_eq_true, Nat.ble_eq] at h1
    cases h
    exact q_w_new hx hb hown hts hK hR hH hA (q_inst_ok _) h1.1 h1.2 hd (fun H' locs' r1 r2 => nx hn rfl _ _ _ r1 r2 hL)
  · -- newarray
    rename_i t
    simp only [q_okI, Bool.and_eq_true, Nat.beq_eq] at hI
    obtain ⟨⟨rfl, hn⟩, hA⟩ := hI
    unfold q_nar at h
    split at h
    · rename_i n r hst
      have hz := q_bif h; clear h; obtain ⟨h1, h⟩ := hz
      have hz := q_bif h; clear h; obtain ⟨h2, h⟩ := hz
      simp only [Bool.and_eq_true, Nat.ble_eq, Bool.not_eq_true', decide_eq_false_iff_not] at h1 h2
      cases h
      dsimp only at hst
      subst hst
      refine q_w_nar (bo := Nat.beq a 1) hx hb hts hK hR hH h1.1 h1.2 h2.1 h2.2 ?_ q_arr_ok (fun H' locs' r1 r2 => nx hn rfl _ _ _ r1 r2 hL)
      rw [hd]
      cases t <;> simp only [Nat.beq_eq] at hA <;> first | (subst hA; rfl) | cases hA
    · cases h
  · -- anewarray
    simp only [q_okI, Bool.and_eq_true, Nat.beq_eq, Bool.or_eq_true] at hI
    obtain ⟨⟨⟨rfl, hn⟩, hA⟩, hci⟩ := hI
    unfold q_nqr at h
    split at h
    · rename_i n r hst
      have hz := q_bif h; clear h; obtain ⟨h1, h⟩ := hz
      have hz := q_bif h; clear h; obtain ⟨h2, h⟩ := hz
      simp only [Bool.and_eq_true, Nat.ble_eq, Bool.not_eq_true', decide_eq_false_iff_not] at h1 h2
      cases h
      dsimp only at hst
      subst hst
      exact q_w_nqr hx hb hown hts hK hR hH hA hci h1.1 h1.2 h2.1 h2.2 hd (fun H' locs' r1 r2 => nx hn rfl _ _ _ r1 r2 hL)
    · cases h
  · -- goto
    simp only [q_okI, Bool.and_eq_true, Nat.beq_eq] at hI
    obtain ⟨rfl, hn⟩ := hI
    obtain ⟨e', h1, h2⟩ := q_tgt_of hn
    cases h
    exact lv_goto hx hb hd h2 (kk e' h1 _ _ _ hR hH hL)
  · -- ifCond
    rename_i cnd off
    simp only [q_okI, Bool.and_eq_true, Nat.beq_eq] at hI
    obtain ⟨⟨rfl, hn⟩, ht⟩ := hI
    obtain ⟨e', h1, h2⟩ := q_tgt_of ht
    split at h
    · rename_i x r hst
      cases h
      dsimp only at hst kk nx
      subst hst
      have kt : q_cmp cnd x 0 = true → W p l e (q_rm k) s m args below meth c H locs cu su Q (F0 m e'.1 ls (r.map (q_cv base b))) := by
        intro hc
        rw [hc] at kk
        exact kk e' h1 _ _ _ hR hH hL
      have kf : q_cmp cnd x 0 = false → W p l e (q_rm k) s m args below meth c H locs cu su Q (F0 m (pc + 3) ls (r.map (q_cv base b))) := by
        intro hc
        rw [hc] at nx
        exact nx hn rfl _ _ _ hR hH hL
      cases cnd
      · exact lv_if_eq hx hb hd h2 (fun q => kt (by simpa [q_cmp] using q)) (fun q => kf (by simpa [q_cmp] using q))
      · exact lv_if_ne hx hb hd h2 (fun q => kt (by simpa [q_cmp] using q)) (fun q => kf (by simpa [q_cmp] using q))
      · exact lv_if_lt hx hb hd h2 (fun q => kt (by simpa [q_cmp] using q)) (fun q => kf (by simpa [q_cmp] using q))
      · exact lv_if_ge hx hb hd h2 (fun q => kt (by simpa [q_cmp] using q)) (fun q => kf (by simpa [q_cmp] using q))
      · exact lv_if_gt hx hb hd h2 (fun q => kt (by simpa [q_cmp] using q)) (fun q => kf (by simpa [q_cmp] using q))
      · exact lv_if_le hx hb hd h2 (fun q => kt (by simpa [q_cmp] using q)) (fun q => kf (by simpa [q_cmp] using q))
    · cases h
  · -- if_icmp
    rename_i cnd off
    simp only [q_okI, Bool.and_eq_true, Nat.beq_eq] at hI
    obtain ⟨⟨rfl, hn⟩, ht⟩ := hI
    obtain ⟨e', h1, h2⟩ := q_tgt_of ht
    split at h
    · rename_i y x r hst
      cases h
      dsimp only at hst kk nx
      subst hst
      have kt : q_cmp cnd x y = true → W p l e (q_rm k) s m args below meth c H locs cu su Q (F0 m e'.1 ls (r.map (q_cv base b))) := by
        intro hc
        rw [hc] at kk
        exact kk e' h1 _ _ _ hR hH hL
      have kf : q_cmp cnd x y = false → W p l e (q_rm k) s m args below meth c H locs cu su Q (F0 m (pc + 3) ls (r.map (q_cv base b))) := by
        intro hc
        rw [hc] at nx
        exact nx hn rfl _ _ _ hR hH hL
      cases cnd
      · exact lv_icmp_eq hx hb hd h2 (fun q => kt (by simpa [q_cmp] using q)) (fun q => kf (by simpa [q_cmp] using q))
      · exact lv_icmp_ne hx hb hd h2 (fun q => kt (by simpa [q_cmp] using q)) (fun q => kf (by simpa [q_cmp] using q))
      · exact lv_icmp_lt hx hb hd h2 (fun q => kt (by simpa [q_cmp] using q)) (fun q => kf (by simpa [q_cmp] using q))
      · exact lv_icmp_ge hx hb hd h2 (fun q => kt (by simpa [q_cmp] using q)) (fun q => kf (by simpa [q_cmp] using q))
      · exact lv_icmp_gt hx hb hd h2 (fun q => kt (by simpa [q_cmp] using q)) (fun q => kf (by simpa [q_cmp] using q))
      · exact lv_icmp_le hx hb hd h2 (fun q => kt (by simpa [q_cmp] using q)) (fun q => kf (by simpa [q_cmp] using q))
    · cases h
  · -- tableswitch
    rename_i d lo hi offs
    split at h
    · rename_i x r hst
      dsimp only at hst
      subst hst
      unfold q_sw at h
      split at h
      · rename_i off ho
        split at h
        · rename_i t hat
          cases h
          obtain ⟨hlt, hp, -⟩ := List.findIdx?_eq_some_iff_getElem.mp hat
          have he' : (q_cd k)[t]? = some (q_cd k)[t] := List.getElem?_eq_getElem hlt
          have h2 : (pc : Int) + off = ((q_cd k)[t].1 : Int) := (of_decide_eq_true hp).symm
          have kk1 := kk _ he' _ _ _ hR hH hL
          unfold q_swo at ho
          cases hc : (decide (x.toInt < lo) || decide (hi < x.toInt)) with
          | true =>
            rw [hc] at ho
            cases ho
            simp only [Bool.or_eq_true, decide_eq_true_eq] at hc
            exact lv_tableOut hx hb hd hc h2 kk1
          | false =>
            rw [hc] at ho
            simp only [Bool.or_eq_false_iff, decide_eq_false_iff_not] at hc
            exact lv_tableIn hx hb hd hc.1 hc.2 ho h2 kk1
        · cases h
      · cases h
    · cases h
  · -- lookupswitch
    rename_i d ps
    simp only [q_okI] at hI
    split at h
    · rename_i x r hst
      dsimp only at hst
      subst hst
      unfold q_sw at h
      split at h
      · rename_i off ho
        split at h
        · rename_i t hat
          cases h
          obtain ⟨hlt, hp, -⟩ := List.findIdx?_eq_some_iff_getElem.mp hat
          have he' : (q_cd k)[t]? = some (q_cd k)[t] := List.getElem?_eq_getElem hlt
          have h2 : (pc : Int) + off = ((q_cd k)[t].1 : Int) := (of_decide_eq_true hp).symm
          exact lv_lookup hx hb hd hI (Option.some.inj ho) h2 (kk _ he' _ _ _ hR hH hL)
        · cases h
      · cases h
    · cases h
  · -- ireturn
    split at h
    · obtain ⟨-, h⟩ := q_bif h; cases h
    · cases h
  · -- areturn
    split at h
    · obtain ⟨-, h⟩ := q_bif h; cases h
    · cases h
  · -- return
    split at h
    · obtain ⟨-, h⟩ := q_bif h; cases h
    · cases h
  · -- invokevirtual
    obtain ⟨-, h⟩ := q_bif h
    exact (q_inv_no h).elim
  · -- invokestatic
    simp only [q_okI, Bool.and_eq_true, Nat.beq_eq] at hI
    obtain ⟨⟨rfl, hn⟩, hI⟩ := hI
    cases h7 : Nat.beq c' 7 with
    | true =>
      rw [h7] at h hI
      simp only [cond_true, Bool.and_eq_true, decide_eq_true_eq, Nat.ble_eq] at h hI
      unfold q_copy at h
      split at h
      · rename_i n dp d sp sr r hst
        split at h
        · rename_i ns nd hs0 hs1
          have hz := q_bif h; clear h; obtain ⟨h1, h⟩ := hz
          simp only [Bool.and_eq_true, Nat.ble_eq, Bool.not_eq_true', decide_eq_false_iff_not] at h1
          cases h
          dsimp only at hst
          subst hst
          exact q_w_copy hx hb (by rw [hml]; exact hL.1.symm) hown hts hK hR hH hI.1.1 q_cpy_ok hs0 hs1 h1.1.1 h1.1.2.1 h1.1.2.2 h1.2.1 h1.2.2.1 hI.1.2 (by rw [q_cs_map]; have := hI.2; have := h1.2.2.2; show _ ≤ q_nu k 4; omega) hd (fun H' locs' r1 r2 => nx hn rfl _ _ _ r1 r2 hL)
        · cases h
      · cases h
    | false =>
      rw [h7] at h hI
      simp only [cond_false] at h hI
      cases h8 : Nat.beq c' 8 with
      | true =>
        rw [h8] at h hI
        simp only [cond_true, Bool.and_eq_true, decide_eq_true_eq, Nat.ble_eq] at h hI
        unfold q_min at h
        split at h
        · rename_i y x r hst
          have hz := q_bif h; clear h; obtain ⟨h1, h⟩ := hz
          simp only [Bool.and_eq_true, Nat.ble_eq] at h1
          cases h
          dsimp only at hst h1
          subst hst
          exact va_mmin hx hb (by rw [hml]; exact hL.1.symm) hown (hts _ (q_w_in hI.1.1 rfl)) (hts _ q_min_ok.1) (hts _ q_min_ok.2.1) (hts _ q_min_ok.2.2) hI.1.2 (by
            have e1 := q_cs_map base b r
            unfold q_cs at e1
            rw [e1]
            have := hI.2; have h2 := h1.1; unfold q_cs at h2; show _ ≤ q_nu k 4; omega) h1.2.1 h1.2.2 hd (nx hn rfl _ _ _ hR hH hL)
        · cases h
      | false =>
        rw [h8] at h
        simp only [cond_false] at h
        obtain ⟨-, h⟩ := q_bif h
        exact (q_inv_no h).elim
  · -- invokespecial
    simp only [q_okI, Bool.and_eq_true, Nat.beq_eq] at hI
    obtain ⟨⟨rfl, hn⟩, hI⟩ := hI
    cases h6 : Nat.beq c' 6 with
    | true =>
      rw [h6] at h hI
      simp only [cond_true, Bool.and_eq_true, decide_eq_true_eq, Nat.ble_eq] at h hI
      unfold q_obi at h
      split at h
      · rename_i id r hst
        have hz := q_bif h; clear h; obtain ⟨h1, h⟩ := hz
        have h1 := Nat.le_of_ble_eq_true h1
        cases h
        dsimp only at hst
        subst hst
        refine W.objInit hx hb hown (hts _ (q_w_in hI.1.1 rfl)) (hts _ q_obj_ok.1) (hts _ q_obj_ok.2) rfl (by rw [hml]; exact hL.1) rfl hd hI.1.2 ?_ (nx hn rfl _ _ _ hR hH hL)
        have e1 := q_cs_map base b r
        unfold q_cs at e1 h1
        have := hI.2
        show 2 * 0 + ((r.map (q_cv base b)).map fun v => v.category).sum + 12 ≤ q_nu k 4
        rw [e1]; omega
      · cases h
    | false =>
      rw [h6] at h
      simp only [cond_false] at h
      obtain ⟨-, h⟩ := q_bif h
      exact (q_inv_no h).elim
  · -- the rest
    split at h
    · rename_i st' hs
      cases h
      have hn : q_nxt (q_cd k) i (pc + len) = true := q_sop_nx hI hs
      exact (q_sop_ok hx hb hown hts hI hd hs (nx hn rfl _ _ _ hR hH hL)).1
    · cases h
end QT
