/-! behind the shapes: things lie one behind the other from the address 'base' on; the script at b -/
abbrev q_G : Type := (Nat → ClassId) × (Nat → Nat → Nat) × (Nat → ClassId)
def q_cv (base b : Nat) (v : Value) : Value := match v with
  | .ref i => .ref (base + i)
  | .retAddr _ => .ref b
  | .int x => .int x
  | .long x => .long x
  | .null => .null
  | .float x => .float x
  | .double x => .double x
def q_cF (base : Nat) (M : Nat → Nat → Int32) (id : Nat) (fs : List (Option (Option Nat))) (k : Nat) : Value := match fs[k]? with
  | some o => q_cv base 0 (q_fv M id k o)
  | none => .null
def q_cell (G : q_G) (base : Nat) (M : Nat → Nat → Int32) (id : Nat) (sh : q_Sh) (H : Heap) : Prop := match sh with
  | .inl (bo, n) => H[base + id]? = some (arrV (G.2.2 (bif bo then 1 else 0)) n (fun j => .int (M id j)))
  | .inr (.inl (ci, fs)) => ∃ r : vw_C, vwCl[ci]? = some r ∧ t_OB (base + id) (G.1 ci) r.2.2 (G.2.1 ci) H (q_cF base M id fs)
  | .inr (.inr (ci, rs)) => H[base + id]? = some (arrV (G.2.2 (2 + ci)) rs.length (fun j => q_cv base 0 (q_ra (rs.getD j none))))
def q_R (G : q_G) (base : Nat) (mm : q_Mm) (H : Heap) : Prop := H.size = base + mm.1.length ∧ ∀ (id : Nat) (sh : q_Sh), mm.1[id]? = some sh → q_cell G base mm.2 id sh H
def q_K (G : q_G) (U : State) : Prop := (∀ (ci : Nat) (q : vw_C), vwCl[ci]? = some q → u_Kn U q.1 q.2.1 q.2.2 (G.1 ci) (G.2.1 ci)) ∧
  (ArrOfT U (G.2.2 0) .int ∧ U.vm.findClass ("[" ++ (FieldType.int).toString) = some (G.2.2 0)) ∧ (ArrOfT U (G.2.2 1) .boolean ∧ U.vm.findClass ("[" ++ (FieldType.boolean).toString) = some (G.2.2 1)) ∧
  (∀ (ci : Nat) (q : vw_C), ci = 0 ∨ ci = 5 → vwCl[ci]? = some q → va_AO q.1 U ∧ ArrOfT U (G.2.2 (2 + ci)) (.object q.1) ∧ va_RA U (G.2.2 (2 + ci)) (.object q.1)) ∧
  ∀ (own : String) (idx : Nat) (y : MethodName) (host : String), Cond.methodLinkNest own idx y host ∈ lw_tbl → va_Nw (.methodLinkNest own idx y host) U
theorem q_K.warm {G : q_G} {u U : State} (hW : u.WarmedH U.vm) (h : q_K G u) : q_K G U :=
  ⟨fun ci q hq => u_Kn_moved hW.alike (h.1 ci q hq), ⟨arrOfT_moved hW.alike h.2.1.1, by rw [hW.alike.findClass]; exact h.2.1.2⟩, ⟨arrOfT_moved hW.alike h.2.2.1.1, by rw [hW.alike.findClass]; exact h.2.2.1.2⟩,
    fun ci q hc hq => ⟨(h.2.2.2.1 ci q hc hq).1.moved hW.alike, arrOfT_moved hW.alike (h.2.2.2.1 ci q hc hq).2.1, (h.2.2.2.1 ci q hc hq).2.2.moved hW.alike⟩, fun own idx y host hm => (h.2.2.2.2 own idx y host hm).warmM hW⟩
theorem q_K.calling {G : q_G} {U : State} {g : JFrame} {mk : MethodId} {a : Array Value} (h : q_K G U) : q_K G (U.calling g mk a) :=
  ⟨fun ci q hq => u_Kn_moved (Vm.Alike.refl U.vm) (h.1 ci q hq), ⟨arrOfT_moved (Vm.Alike.refl U.vm) h.2.1.1, h.2.1.2⟩, ⟨arrOfT_moved (Vm.Alike.refl U.vm) h.2.2.1.1, h.2.2.1.2⟩,
    fun ci q hc hq => ⟨(h.2.2.2.1 ci q hc hq).1.moved (Vm.Alike.refl U.vm), arrOfT_moved (Vm.Alike.refl U.vm) (h.2.2.2.1 ci q hc hq).2.1, (h.2.2.2.1 ci q hc hq).2.2.moved (Vm.Alike.refl U.vm)⟩, fun own idx y host hm => (h.2.2.2.2 own idx y host hm).same rfl rfl⟩
noncomputable def q_rm (k : Nat) : Room := { frames := q_nu k 3, cells := q_mc k, slots := q_ms k, locals := q_nu k 4 }
/-- where a walk of method k stands -/
def q_C (G : q_G) (base b : Nat) (X : q_X) (k : Nat) (p : Program) (s : State) (m : MethodId) (args : Array Value) (meth : Method) (c : Code) : Prop :=
  p.tables.exec = Jvm.exec ∧ c.code = (q_mi k).2.1 ∧ c.maxLocals = (q_mi k).2.2.1 ∧ s.vm.findClass (q_mi k).1.cls = some m.cls ∧ (∀ w ∈ q_tb, w.before args s = true) ∧
  ((q_mi k).1.name = "<init>" → meth.name = "<init>") ∧ q_K G s ∧ base ≤ s.heap.size ∧ ∀ (L : Nat) (xs : Nat → Int32), X = some (L, xs) → va_X b L xs s s.heap ∧ b < base
def q_H (base : Nat) (s : State) (H : Heap) (locs : List Loc) : Prop := (∀ q : Nat, q < base → H[q]? = s.heap[q]?) ∧ (∀ x ∈ locs, base ≤ x.base) ∧ s.heap.size ≤ H.size
def q_L (base b : Nat) (ls : Array Slot) (nL : Nat) (al : List (Option Value)) : Prop := ls.size = nL ∧ lv_wf ls ∧ al.length = nL ∧ ∀ (i : Nat) (v : Value), al[i]? = some (some v) → ls[i]? = some (.val (q_cv base b v))
theorem q_cv_cat (base b : Nat) (v : Value) : (q_cv base b v).category = v.category := by cases v <;> rfl
/-! the locals -/
def q_al (base b : Nat) (al : List (Option Value)) : List (Nat × Value) := (List.range al.length).filterMap fun i => match al[i]? with
  | some (some v) => some (i, q_cv base b v)
  | _ => none
theorem q_al_mem {base b : Nat} {al : List (Option Value)} {i : Nat} {v : Value} (h : al[i]? = some (some v)) : (i, q_cv base b v) ∈ q_al base b al := by
  refine List.mem_filterMap.mpr ⟨i, List.mem_range.mpr (List.getElem?_eq_some_iff.mp h).1, ?_⟩
  rw [h]
theorem q_al_has {base b : Nat} {ls : Array Slot} {nL : Nat} {al : List (Option Value)} (h : q_L base b ls nL al) : lv_has ls nL (q_al base b al) := by
  refine ⟨h.1, h.2.1, fun q hq => ?_⟩
  obtain ⟨i, -, hi⟩ := List.mem_filterMap.mp hq
  split at hi
  · rename_i v hv
    cases hi
    exact h.2.2.2 _ _ hv
  · cases hi
/-- behind a store of one word -/
theorem q_L_of {base b : Nat} {ls ls' : Array Slot} {nL n : Nat} {al : List (Option Value)} {v : Value} (h : q_L base b ls nL al) (ho : q_okst al n = true) (hn : n < al.length)
    (h' : lv_has ls' nL ((n, q_cv base b v) :: (q_al base b al).filter (fun q => !(q.1 == n) && !(q.1 + 1 == n && q.2.category == 2)))) : q_L base b ls' nL (al.set n (some v)) := by
  refine ⟨h'.1, h'.2.1, by rw [List.length_set]; exact h.2.2.1, fun i w hw => ?_⟩
  rw [List.getElem?_set] at hw
  split at hw
  · rename_i e
    subst e
    cases hw
    exact h'.2.2 _ List.mem_cons_self
  · rename_i e
    refine h'.2.2 (i, q_cv base b w) (List.mem_cons_of_mem _ (List.mem_filter.mpr ⟨q_al_mem hw, ?_⟩))
    have e1 : (i == n) = false := by simpa using fun q => e q.symm
    simp only [e1, Bool.not_false, Bool.true_and, Bool.not_eq_true', Bool.and_eq_false_iff]
    by_cases e2 : i + 1 = n
    · right
      subst e2
      rw [q_cv_cat]
      simp only [q_okst, hw] at ho
      have := Nat.eq_of_beq_eq_true ho
      rw [this]; rfl
    · left
      simpa using e2
section QS
variable {p : Program} {l : Launch} {e : Env} {R : Room} {s : State} {m : MethodId} {args : Array Value} {below : List Frame} {meth : Method} {c : Code} {H : Heap} {locs : List Loc} {cells slots : Nat} {Q : State → Prop}
variable {cc : ByteArray} {pc : Nat} {ls : Array Slot} {base b : Nat}
theorem q_bin_of {f : Int32 → Int32 → Int32} {st st' : List Value} (h : q_bin f st = some st') : ∃ x y r, st = .int y :: .int x :: r ∧ st' = .int (f x y) :: r := by
  unfold q_bin at h
  split at h
  · cases h; exact ⟨_, _, _, rfl, rfl⟩
  · cases h
theorem q_binL_of {f : Int64 → Int64 → Int64} {st st' : List Value} (h : q_binL f st = some st') : ∃ x y r, st = .long y :: .long x :: r ∧ st' = .long (f x y) :: r := by
  unfold q_binL at h
  split at h
  · cases h; exact ⟨_, _, _, rfl, rfl⟩
  · cases h
theorem q_shL_of {f : Int64 → Int32 → Int64} {st st' : List Value} (h : q_shL f st = some st') : ∃ x y r, st = .int y :: .long x :: r ∧ st' = .long (f x y) :: r := by
  unfold q_shL at h
  split at h
  · cases h; exact ⟨_, _, _, rfl, rfl⟩
  · cases h
theorem q_ck_of {b : Bool} {r : Option (List Value)} {st : List Value} (h : q_ck b r = some st) : b = true ∧ r = some st := by
  cases b
  · cases h
  · exact ⟨rfl, h⟩
theorem q_w_in {n : Nat} {w : Cond} (h : q_w n = some w) (hg : goodWord w = true) : w ∈ q_tb := List.mem_filter.mpr ⟨List.mem_of_getElem? h, hg⟩
set_option maxHeartbeats 4000000 in
theorem q_sop_ok (hx : p.tables.exec = Jvm.exec) (hb : c.code = cc) {own : String} (hown : s.vm.findClass own = some m.cls) (hts : ∀ w ∈ q_tb, w.before args s = true)
    {k : Nat} {init : Bool} {cd : List q_Ent} {i len : Nat} {ins : Instr} {a b' c' d' : Nat} (hI : q_okI k own init cd i pc len ins a b' c' d' = true) (hd : decode cc pc = .ok (ins, len)) {st st' : List Value} (h : q_sop ins a st = some st')
    (kk : W p l e R s m args below meth c H locs cells slots Q (F0 m (pc + len) ls (st'.map (q_cv base b)))) : W p l e R s m args below meth c H locs cells slots Q (F0 m pc ls (st.map (q_cv base b))) ∧ q_nxt cd i (pc + len) = true := by
  unfold q_sop at h
  split at h <;> simp only [q_okI, Bool.and_eq_true, Nat.beq_eq, decide_eq_true_eq] at hI
  · obtain ⟨rfl, hn⟩ := hI; cases h; exact ⟨lv_iconst hx hb hd rfl kk, hn⟩
  · obtain ⟨rfl, hn⟩ := hI; cases h; exact ⟨lv_bipush hx hb hd rfl kk, hn⟩
  · obtain ⟨rfl, hn⟩ := hI; cases h; exact ⟨lv_sipush hx hb hd rfl kk, hn⟩
  · obtain ⟨rfl, hn⟩ := hI; cases h; exact ⟨lv_lconst hx hb hd rfl kk, hn⟩
  · obtain ⟨⟨rfl, hn⟩, hw⟩ := hI; cases h; exact ⟨lv_ldcw hx hb hown (hts _ (q_w_in hw rfl)) hd kk, hn⟩
  · obtain ⟨⟨rfl, hn⟩, hw⟩ := hI; cases h; exact ⟨lv_ldc2 hx hb hown (hts _ (q_w_in hw rfl)) hd kk, hn⟩
  · obtain ⟨rfl, hn⟩ := hI; obtain ⟨x, y, r, rfl, rfl⟩ := q_bin_of h; exact ⟨lv_iadd hx hb hd kk, hn⟩
  · obtain ⟨rfl, hn⟩ := hI; obtain ⟨x, y, r, rfl, rfl⟩ := q_bin_of h; exact ⟨lv_isub hx hb hd kk, hn⟩
  · obtain ⟨rfl, hn⟩ := hI; obtain ⟨x, y, r, rfl, rfl⟩ := q_bin_of h; exact ⟨lv_imul hx hb hd kk, hn⟩
  · obtain ⟨rfl, hn⟩ := hI
    split at h
    · obtain ⟨hy, h⟩ := q_ck_of h; cases h; exact ⟨lv_idiv hx hb hd (by simpa using hy) kk, hn⟩
    · cases h
  · obtain ⟨rfl, hn⟩ := hI
    split at h
    · obtain ⟨hy, h⟩ := q_ck_of h; cases h; exact ⟨lv_irem hx hb hd (by simpa using hy) kk, hn⟩
    · cases h
  · obtain ⟨rfl, hn⟩ := hI; obtain ⟨x, y, r, rfl, rfl⟩ := q_bin_of h; exact ⟨lv_iand hx hb hd kk, hn⟩
  · obtain ⟨rfl, hn⟩ := hI; obtain ⟨x, y, r, rfl, rfl⟩ := q_bin_of h; exact ⟨lv_ior hx hb hd kk, hn⟩
  · obtain ⟨rfl, hn⟩ := hI; obtain ⟨x, y, r, rfl, rfl⟩ := q_bin_of h; exact ⟨lv_ixor hx hb hd kk, hn⟩
  · obtain ⟨rfl, hn⟩ := hI; obtain ⟨x, y, r, rfl, rfl⟩ := q_bin_of h; exact ⟨lv_ishl hx hb hd kk, hn⟩
  · obtain ⟨rfl, hn⟩ := hI; obtain ⟨x, y, r, rfl, rfl⟩ := q_bin_of h; exact ⟨lv_ishr hx hb hd kk, hn⟩
  · obtain ⟨rfl, hn⟩ := hI; obtain ⟨x, y, r, rfl, rfl⟩ := q_bin_of h; exact ⟨lv_iushr hx hb hd rfl kk, hn⟩
  · obtain ⟨rfl, hn⟩ := hI; obtain ⟨x, y, r, rfl, rfl⟩ := q_binL_of h; exact ⟨lv_land hx hb hd kk, hn⟩
  · obtain ⟨rfl, hn⟩ := hI; obtain ⟨x, y, r, rfl, rfl⟩ := q_binL_of h; exact ⟨lv_lor hx hb hd kk, hn⟩
  · obtain ⟨rfl, hn⟩ := hI; obtain ⟨x, y, r, rfl, rfl⟩ := q_shL_of h; exact ⟨lv_lshl hx hb hd rfl kk, hn⟩
  · obtain ⟨rfl, hn⟩ := hI; obtain ⟨x, y, r, rfl, rfl⟩ := q_shL_of h; exact ⟨lv_lshr hx hb hd rfl kk, hn⟩
  · obtain ⟨rfl, hn⟩ := hI; obtain ⟨x, y, r, rfl, rfl⟩ := q_shL_of h; exact ⟨lv_lushr hx hb hd rfl kk, hn⟩
  · obtain ⟨rfl, hn⟩ := hI
    split at h
    · cases h; exact ⟨W.lcmp hx hb hd kk, hn⟩
    · cases h
  · obtain ⟨rfl, hn⟩ := hI
    split at h
    · cases h; exact ⟨lv_i2l hx hb hd rfl kk, hn⟩
    · cases h
  · obtain ⟨rfl, hn⟩ := hI
    split at h
    · cases h; exact ⟨lv_l2i hx hb hd rfl kk, hn⟩
    · cases h
  · obtain ⟨rfl, hn⟩ := hI
    split at h
    · obtain ⟨hy, h⟩ := q_ck_of h; cases h; exact ⟨lv_dup hx hb hd (by rw [q_cv_cat]; exact Nat.eq_of_beq_eq_true hy) kk, hn⟩
    · cases h
  · obtain ⟨rfl, hn⟩ := hI
    split at h
    · obtain ⟨hy, h⟩ := q_ck_of h; cases h
      rw [Bool.and_eq_true] at hy
      exact ⟨lv_dup2_11 hx hb hd (by rw [q_cv_cat]; exact Nat.eq_of_beq_eq_true hy.1) (by rw [q_cv_cat]; exact Nat.eq_of_beq_eq_true hy.2) kk, hn⟩
    · cases h
  · obtain ⟨rfl, hn⟩ := hI
    split at h
    · obtain ⟨hy, h⟩ := q_ck_of h; cases h; exact ⟨lv_pop hx hb hd (by rw [q_cv_cat]; exact Nat.eq_of_beq_eq_true hy) kk, hn⟩
    · cases h
  · cases h
theorem q_sop_nx {k : Nat} {own : String} {init : Bool} {cd : List q_Ent} {i len : Nat} {ins : Instr} {a b' c' d' : Nat} (hI : q_okI k own init cd i pc len ins a b' c' d' = true) {st st' : List Value} (h : q_sop ins a st = some st') : q_nxt cd i (pc + len) = true := by
  unfold q_sop at h
  split at h <;> simp only [q_okI, Bool.and_eq_true, Nat.beq_eq, decide_eq_true_eq] at hI <;> first | (obtain ⟨⟨rfl, hn⟩, -⟩ := hI; exact hn) | (obtain ⟨rfl, hn⟩ := hI; exact hn) | cases h
end QS
