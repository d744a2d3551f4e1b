section SCALE2
variable {M : MM} {c g z : Nat} {V : Vw} {R : Ru} {Q : Option Value → MM → Prop}
theorem g_sort {s : Nat} (hc : CSh c) (hg : SSh g) (hgc : c + 3 < g ∨ g + 1 < c) (H : CardIs M c V) (O : VOK V) (hs : s < 4)
    (kk : ∀ M', Kp M M' [g + 1] → (∀ i, i < (srt (vc V) (fun j => vk V j s) (vn V)).2 → M' (g + 1) i = nI ((srt (vc V) (fun j => vk V j s) (vn V)).1 i)) → Q (some (.int (nI (srt (vc V) (fun j => vk V j s) (vn V)).2))) M') : Ca 56 [.ref g, .ref c, .int (nI s)] M Q := by
  have hc' := hc
  have hn7 := O.2.1
  have hL := O.2.2.2.2.1
  have hb := O.2.2.2.2.2.1
  obtain ⟨hS, hA, hB, hC⟩ := hc
  obtain ⟨gS, gA⟩ := hg
  have cardK : ∀ M', Kp M M' [g + 1] → CardIs M' c V := fun M' K => H.kp K (by simp; omega) (by simp; omega) (by simp; omega) (by simp; omega)
  have hk : q_cd 56 = kd_X4_sortMarks := rfl
  show WP 56 0 [some (.ref g), some (.ref c), some (.int (nI s)), none, none, none, none] [] M Q
  have outer := q_dn (n := vn V) (P := fun j => ∀ M1 x5 x6, Kp M M1 [g + 1] → (∀ i, i < (srt (vc V) (fun j => vk V j s) j).2 → M1 (g + 1) i = nI ((srt (vc V) (fun j => vk V j s) j).1 i)) → WP 56 4 [some (.ref g), some (.ref c), some (.int (nI s)), some (.int (nI (srt (vc V) (fun j => vk V j s) j).2)), some (.int (nI j)), x5, x6] [] M1 Q) (by
    intro M1 x5 x6 hK hr
    repeat (first | refine wp_s hk rfl rfl ?_ | refine wp_goto hk rfl ?_ | refine wp_geti hk rfl rfl rfl rfl ?_ | refine wp_getr hk rfl rfl rfl rfl ?_)
    refine wp_callV hk rfl rfl rfl rfl hS rfl ?_
    refine c_judges hc' (cardK M1 hK) ?_
    refine wp_icgeN (u := vn V) (v := vn V) hk rfl rfl rfl (by omega) (by omega) (fun _ => ?_) (fun h => absurd h (by omega))
    repeat (first | refine wp_s hk rfl rfl ?_ | refine wp_goto hk rfl ?_ | refine wp_geti hk rfl rfl rfl rfl ?_ | refine wp_getr hk rfl rfl rfl rfl ?_)
    exact wp_ir hk rfl rfl (kk M1 hK hr)) (by
    intro j hj ih M1 x5 x6 hK hr
    repeat (first | refine wp_s hk rfl rfl ?_ | refine wp_goto hk rfl ?_ | refine wp_geti hk rfl rfl rfl rfl ?_ | refine wp_getr hk rfl rfl rfl rfl ?_)
    refine wp_callV hk rfl rfl rfl rfl hS rfl ?_
    refine c_judges hc' (cardK M1 hK) ?_
    refine wp_icgeN (u := j) (v := vn V) hk rfl rfl rfl (by omega) (by omega) (fun h => absurd h (by omega)) (fun _ => ?_)
    have hsn := srt_n (cnt := vc V) (col := fun j => vk V j s) (j := j)
    have hsl := srt_le (cnt := vc V) (col := fun j => vk V j s) (c := 5) (j := j) (fun i hi => hb i (by omega) s hs)
    repeat (first | refine wp_s hk rfl rfl ?_ | refine wp_goto hk rfl ?_ | refine wp_geti hk rfl rfl rfl rfl ?_ | refine wp_getr hk rfl rfl rfl rfl ?_)
    refine wp_callV hk rfl rfl rfl rfl hS rfl ?_
    refine c_counts hc' (cardK M1 hK) hL hn7 (by omega) ?_
    refine wp_ifeqB hk rfl rfl (fun h => ?_) (fun h => ?_)
    · have e : srt (vc V) (fun j => vk V j s) (j + 1) = srt (vc V) (fun j => vk V j s) j := by simp only [srt, h]; rfl
      have := ih M1 x5 x6 hK
      rw [e] at this
      refine wp_s hk rfl rfl ?_
      refine wp_goto hk rfl ?_
      rw [q_nadd j 1]
      exact this hr
    · have e : srt (vc V) (fun j => vk V j s) (j + 1) = (insA (srt (vc V) (fun j => vk V j s) j).1 (srt (vc V) (fun j => vk V j s) j).2 (vk V j s), (srt (vc V) (fun j => vk V j s) j).2 + 1) := by simp only [srt, h, if_true]
      have ih' := ih
      rw [e] at ih'
      generalize hrow : (srt (vc V) (fun j => vk V j s) j).1 = row at hr hsl ih'
      generalize hmany : (srt (vc V) (fun j => vk V j s) j).2 = many at hr hsn ih'
      have hbj := hb j (by omega) s hs
      have inner : ∀ a row' M2, a ≤ many → Kp M M2 [g + 1] → (∀ i, row' i ≤ 5) → (∀ i, i ≤ many → i ≠ a → M2 (g + 1) i = nI (row' i)) → insA row' a (vk V j s) = insA row many (vk V j s) → WP 56 20 [some (.ref g), some (.ref c), some (.int (nI s)), some (.int (nI many)), some (.int (nI j)), some (.int (nI (vk V j s))), some (.int (nI a))] [.int (nI a)] M2 Q := by
        intro a
        have stop : ∀ a row' M2, a ≤ many → Kp M M2 [g + 1] → (∀ i, i ≤ many → i ≠ a → M2 (g + 1) i = nI (row' i)) → updN row' a (vk V j s) = insA row many (vk V j s) → WP 56 41 [some (.ref g), some (.ref c), some (.int (nI s)), some (.int (nI many)), some (.int (nI j)), some (.int (nI (vk V j s))), some (.int (nI a))] [] M2 Q := by
          intro a row' M2 ha hK2 hr2 he
          repeat (first | refine wp_s hk rfl rfl ?_ | refine wp_goto hk rfl ?_ | refine wp_geti hk rfl rfl rfl rfl ?_ | refine wp_getr hk rfl rfl rfl rfl ?_ | refine wp_geti hk rfl gS rfl rfl ?_ | refine wp_getr hk rfl gS rfl rfl ?_)
          refine wp_ast (jx := a) hk rfl gA rfl (by omega) ?_
          refine wp_s hk rfl rfl ?_
          refine wp_s hk rfl rfl ?_
          refine wp_goto hk rfl ?_
          rw [q_nadd many 1, q_nadd j 1]
          refine ih' _ _ _ (hK2.up (by simp)) (fun i hi => ?_)
          rw [q_up_at, ← he]
          by_cases e1 : i = a
          · subst e1; rw [upd_at]; simp only [updN, if_true]
          · rw [upd_ne _ _ e1, hr2 i (by omega) e1]; simp only [updN, if_neg e1]
        induction a with
        | zero =>
          intro row' M2 ha hK2 hl hr2 he
          refine wp_ifleN (u := 0) hk rfl rfl (by omega) (fun _ => ?_) (fun h => absurd rfl h)
          exact stop 0 row' M2 ha hK2 hr2 he
        | succ a iha =>
          intro row' M2 ha hK2 hl hr2 he
          refine wp_ifleN (u := a + 1) hk rfl rfl (by omega) (fun h => absurd h (by omega)) (fun _ => ?_)
          repeat (first | refine wp_s hk rfl rfl ?_ | refine wp_goto hk rfl ?_ | refine wp_geti hk rfl rfl rfl rfl ?_ | refine wp_getr hk rfl rfl rfl rfl ?_ | refine wp_geti hk rfl gS rfl rfl ?_ | refine wp_getr hk rfl gS rfl rfl ?_)
          rw [q_nsub (Nat.le_add_left 1 a), Nat.add_sub_cancel]
          refine wp_ald (jx := a) hk rfl gA rfl (by omega) ?_
          have b1 := hl a
          repeat (first | refine wp_s hk rfl rfl ?_ | refine wp_goto hk rfl ?_ | refine wp_geti hk rfl rfl rfl rfl ?_ | refine wp_getr hk rfl rfl rfl rfl ?_ | refine wp_geti hk rfl gS rfl rfl ?_ | refine wp_getr hk rfl gS rfl rfl ?_)
          refine wp_icleN (u := row' a) (v := vk V j s) hk rfl (hr2 a (by omega) (by omega)) rfl (by omega) (by omega) (fun h => ?_) (fun h => ?_)
          · refine stop (a + 1) row' M2 ha hK2 hr2 ?_
            rw [← he]
            simp only [insA]
            rw [if_neg (by omega)]
          · repeat (first | refine wp_s hk rfl rfl ?_ | refine wp_goto hk rfl ?_ | refine wp_geti hk rfl rfl rfl rfl ?_ | refine wp_getr hk rfl rfl rfl rfl ?_ | refine wp_geti hk rfl gS rfl rfl ?_ | refine wp_getr hk rfl gS rfl rfl ?_)
            rw [q_nsub (Nat.le_add_left 1 a), Nat.add_sub_cancel]
            refine wp_ald (jx := a) hk rfl gA rfl (by omega) ?_
            refine wp_ast (jx := a + 1) hk rfl gA rfl (by omega) ?_
            repeat (first | refine wp_s hk rfl rfl ?_ | refine wp_goto hk rfl ?_ | refine wp_geti hk rfl rfl rfl rfl ?_ | refine wp_getr hk rfl rfl rfl rfl ?_ | refine wp_geti hk rfl gS rfl rfl ?_ | refine wp_getr hk rfl gS rfl rfl ?_)
            rw [q_dec a]
            refine iha (updN row' (a + 1) (row' a)) _ (by omega) (hK2.up (by simp)) (fun i => by simp only [updN]; split <;> exact hl _) (fun i hi hia => ?_) ?_
            · rw [q_up_at]
              by_cases e1 : i = a + 1
              · subst e1; rw [upd_at, hr2 a (by omega) (by omega)]; simp only [updN, if_true]
              · rw [upd_ne _ _ e1, hr2 i hi e1]; simp only [updN, if_neg e1]
            · rw [← he]
              simp only [insA]
              rw [if_pos (by omega)]
      repeat (first | refine wp_s hk rfl rfl ?_ | refine wp_goto hk rfl ?_ | refine wp_geti hk rfl rfl rfl rfl ?_ | refine wp_getr hk rfl rfl rfl rfl ?_)
      refine wp_callV hk rfl rfl rfl rfl hS rfl ?_
      refine c_markOf hc' (cardK M1 hK) (by omega) hs ?_
      repeat (first | refine wp_s hk rfl rfl ?_ | refine wp_goto hk rfl ?_ | refine wp_geti hk rfl rfl rfl rfl ?_ | refine wp_getr hk rfl rfl rfl rfl ?_)
      exact inner many row M1 (Nat.le_refl _) hK hsl (fun i hi hia => hr i (by omega)) rfl)
  refine wp_s hk rfl rfl ?_
  refine wp_s hk rfl rfl ?_
  refine wp_s hk rfl rfl ?_
  refine wp_s hk rfl rfl ?_
  exact outer 0 (Nat.zero_le _) M _ _ (Kp.rf _ _) (fun i hi => absurd hi (Nat.not_lt_zero _))
theorem g_sumWithout {k many : Nat} {row : Nat → Nat} (hg : SSh g) (hr : ∀ i, i < many → M (g + 1) i = nI (row i)) (h7 : many ≤ 7) (hk3 : k ≤ 3) (kk : Q (some (.int (nI (sumN (fun i => if k ≤ i then row i else 0) (many - k))))) M) : Ca 57 [.ref g, .int (nI k), .int (nI many)] M Q := by
  obtain ⟨gS, gA⟩ := hg
  have hk : q_cd 57 = kd_X4_sumWithout := rfl
  show WP 57 0 [some (.ref g), some (.int (nI k)), some (.int (nI many)), none, none] [] M Q
  by_cases hkm : k ≤ many
  · have loop := q_dn (n := many - k) (P := fun i => k ≤ i → WP 57 8 [some (.ref g), some (.int (nI k)), some (.int (nI many)), some (.int (nI (sumN (fun i => if k ≤ i then row i else 0) i))), some (.int (nI i))] [.int (nI many - nI k), .int (nI i)] M Q) (by
      intro hi
      refine wp_icgeN (u := many - k) (v := many - k) hk rfl rfl (q_nsub hkm) (by omega) (by omega) (fun _ => ?_) (fun h => absurd h (by omega))
      repeat (first | refine wp_s hk rfl rfl ?_ | refine wp_goto hk rfl ?_ | refine wp_geti hk rfl rfl rfl rfl ?_ | refine wp_getr hk rfl rfl rfl rfl ?_)
      exact wp_ir hk rfl rfl kk) (by
      intro i hi ih hki
      refine wp_icgeN (u := i) (v := many - k) hk rfl rfl (q_nsub hkm) (by omega) (by omega) (fun h => absurd h (by omega)) (fun _ => ?_)
      repeat (first | refine wp_s hk rfl rfl ?_ | refine wp_goto hk rfl ?_ | refine wp_geti hk rfl rfl rfl rfl ?_ | refine wp_getr hk rfl rfl rfl rfl ?_ | refine wp_geti hk rfl gS rfl rfl ?_ | refine wp_getr hk rfl gS rfl rfl ?_)
      refine wp_ald (jx := i) hk rfl gA rfl (by omega) ?_
      rw [hr i (by omega)]
      repeat (first | refine wp_s hk rfl rfl ?_ | refine wp_goto hk rfl ?_ | refine wp_geti hk rfl rfl rfl rfl ?_ | refine wp_getr hk rfl rfl rfl rfl ?_)
      rw [q_nadd, q_nadd i 1]
      have := ih (by omega)
      simp only [sumN, if_pos hki] at this
      exact this)
    repeat (first | refine wp_s hk rfl rfl ?_ | refine wp_goto hk rfl ?_ | refine wp_geti hk rfl rfl rfl rfl ?_ | refine wp_getr hk rfl rfl rfl rfl ?_)
    by_cases hk2 : k ≤ many - k
    · have := loop k hk2 (Nat.le_refl _)
      rw [sumN_zero (fun j hj => by rw [if_neg (by omega)])] at this
      exact this
    · refine wp_icgeN (u := k) (v := many - k) hk rfl rfl (q_nsub hkm) (by omega) (by omega) (fun _ => ?_) (fun h => absurd h (by omega))
      repeat (first | refine wp_s hk rfl rfl ?_ | refine wp_goto hk rfl ?_ | refine wp_geti hk rfl rfl rfl rfl ?_ | refine wp_getr hk rfl rfl rfl rfl ?_)
      refine wp_ir hk rfl rfl ?_
      have := kk
      rw [sumN_zero (fun j hj => by rw [if_neg (by omega)])] at this
      exact this
  · repeat (first | refine wp_s hk rfl rfl ?_ | refine wp_goto hk rfl ?_ | refine wp_geti hk rfl rfl rfl rfl ?_ | refine wp_getr hk rfl rfl rfl rfl ?_)
    refine wp_icge hk rfl (fun _ => ?_) (fun h => absurd ?_ h)
    · repeat (first | refine wp_s hk rfl rfl ?_ | refine wp_goto hk rfl ?_ | refine wp_geti hk rfl rfl rfl rfl ?_ | refine wp_getr hk rfl rfl rfl rfl ?_)
      refine wp_ir hk rfl rfl ?_
      have := kk
      rw [show many - k = 0 by omega] at this
      exact this
    · rw [Int32.le_iff_toInt_le, q_dInt (by omega) (by omega), q_toInt (by omega)]; omega
theorem g_middleOf {many : Nat} {row : Nat → Nat} (hg : SSh g) (hr : ∀ i, i < many → M (g + 1) i = nI (row i)) (h7 : many ≤ 7) (kk : Q (some (.int (nI (if many = 0 then 0 else row ((many - 1) / 2) + row (many / 2))))) M) : Ca 58 [.ref g, .int (nI many)] M Q := by
  obtain ⟨gS, gA⟩ := hg
  have hk : q_cd 58 = kd_X4_middleOf := rfl
  show WP 58 0 [some (.ref g), some (.int (nI many))] [] M Q
  repeat (first | refine wp_s hk rfl rfl ?_ | refine wp_goto hk rfl ?_ | refine wp_geti hk rfl rfl rfl rfl ?_ | refine wp_getr hk rfl rfl rfl rfl ?_)
  refine wp_ifneN (u := many) hk rfl rfl (by omega) (fun h => ?_) (fun h => ?_)
  · rw [if_neg h] at kk
    repeat (first | refine wp_s hk rfl rfl ?_ | refine wp_goto hk rfl ?_ | refine wp_geti hk rfl rfl rfl rfl ?_ | refine wp_getr hk rfl rfl rfl rfl ?_ | refine wp_geti hk rfl gS rfl rfl ?_ | refine wp_getr hk rfl gS rfl rfl ?_)
    rw [q_nsub (show 1 ≤ many by omega)]
    refine wp_div hk rfl (by decide) ?_
    rw [q_ndiv (b := 2) (by omega) (by omega) (by omega)]
    refine wp_ald (jx := (many - 1) / 2) hk rfl gA rfl (by omega) ?_
    rw [hr _ (by omega)]
    repeat (first | refine wp_s hk rfl rfl ?_ | refine wp_goto hk rfl ?_ | refine wp_geti hk rfl rfl rfl rfl ?_ | refine wp_getr hk rfl rfl rfl rfl ?_ | refine wp_geti hk rfl gS rfl rfl ?_ | refine wp_getr hk rfl gS rfl rfl ?_)
    refine wp_div hk rfl (by decide) ?_
    rw [q_ndiv (b := 2) (by omega) (by omega) (by omega)]
    refine wp_ald (jx := many / 2) hk rfl gA rfl (by omega) ?_
    rw [hr _ (by omega)]
    repeat (first | refine wp_s hk rfl rfl ?_ | refine wp_goto hk rfl ?_ | refine wp_geti hk rfl rfl rfl rfl ?_ | refine wp_getr hk rfl rfl rfl rfl ?_)
    rw [q_nadd]
    exact wp_ir hk rfl rfl kk
  · rw [if_pos (by omega)] at kk
    repeat (first | refine wp_s hk rfl rfl ?_ | refine wp_goto hk rfl ?_ | refine wp_geti hk rfl rfl rfl rfl ?_ | refine wp_getr hk rfl rfl rfl rfl ?_)
    exact wp_ir hk rfl rfl kk
theorem q_swo_hi {dd : Int} {offs : Array Int} {hi : Nat} {x : Nat} (hx : x < 2 ^ 31) (h : hi < x) : q_swo 0 (hi : Int) dd offs (nI x) = some dd := by
  unfold q_swo
  rw [q_toInt hx]
  have : (decide ((x : Int) < 0) || decide ((hi : Int) < (x : Int))) = true := by
    simp only [Bool.or_eq_true, decide_eq_true_eq]
    right
    omega
  rw [this]
  rfl
theorem g_weigh {i s : Nat} (hc : CSh c) (hg : SSh g) (hz : ZSh z) (hgc : c + 3 < g ∨ g + 1 < c) (H : CardIs M c V) (O : VOK V) (HZ : SchIs M z R) (OZ : RuOK R) (hi : i < R.1) (hs : s < vm V) (kk : ∀ M', Kp M M' [g + 1] → Q (some (.int (nI (worthW (vn V) (vm V) (vc V) (vk V) R i s)))) M') : Ca 62 [.ref g, .ref z, .int (nI i), .ref c, .int (nI s)] M Q := by
  have hc' := hc
  have hg' := hg
  have hz' := hz
  have hm4 := O.2.2.2.1
  have hn7 := O.2.1
  have hk4 := OZ.2.2.1 i hi
  have hos := OZ.2.2.2.1 i hi
  have hsn := srt_n (cnt := vc V) (col := fun j => vk V j s) (j := vn V)
  obtain ⟨gS, gA⟩ := hg
  obtain ⟨zS, zA, zB, zC⟩ := hz
  have hk : q_cd 62 = kd_X4_weigh := rfl
  show WP 62 0 [some (.ref g), some (.ref z), some (.int (nI i)), some (.ref c), some (.int (nI s))] [] M Q
  repeat (first | refine wp_s hk rfl rfl ?_ | refine wp_goto hk rfl ?_ | refine wp_geti hk rfl rfl rfl rfl ?_ | refine wp_getr hk rfl rfl rfl rfl ?_)
  refine wp_callV hk rfl rfl rfl rfl zS rfl ?_
  refine z_kindOf hz' HZ OZ hi ?_
  have hcase : R.2.1 i = 0 ∨ R.2.1 i = 1 ∨ R.2.1 i = 2 ∨ R.2.1 i = 3 ∨ R.2.1 i = 4 := by omega
  unfold worthW at kk
  rcases hcase with hkd | hkd | hkd | hkd | hkd <;> rw [hkd] at kk ⊢
  · refine wp_tab hk rfl (off := 31) (by rfl) rfl ?_
    repeat (first | refine wp_s hk rfl rfl ?_ | refine wp_goto hk rfl ?_ | refine wp_geti hk rfl rfl rfl rfl ?_ | refine wp_getr hk rfl rfl rfl rfl ?_)
    refine wp_callV hk rfl rfl rfl rfl zS rfl ?_
    refine z_strikeOf hz' HZ OZ hi hkd ?_
    repeat (first | refine wp_s hk rfl rfl ?_ | refine wp_goto hk rfl ?_ | refine wp_geti hk rfl rfl rfl rfl ?_ | refine wp_getr hk rfl rfl rfl rfl ?_)
    refine wp_callV hk rfl rfl rfl rfl gS rfl ?_
    refine g_sort hc' hg' hgc H O (by omega) (fun M1 K1 hr => ?_)
    refine wp_callV hk rfl rfl rfl rfl gS rfl ?_
    refine g_sumWithout hg' hr (by omega) (hos hkd) ?_
    exact wp_ir hk rfl rfl (kk M1 K1)
  · refine wp_tab hk rfl (off := 48) (by rfl) rfl ?_
    repeat (first | refine wp_s hk rfl rfl ?_ | refine wp_goto hk rfl ?_ | refine wp_geti hk rfl rfl rfl rfl ?_ | refine wp_getr hk rfl rfl rfl rfl ?_)
    refine wp_callV hk rfl rfl rfl rfl gS rfl ?_
    refine g_sort hc' hg' hgc H O (by omega) (fun M1 K1 hr => ?_)
    refine wp_callV hk rfl rfl rfl rfl gS rfl ?_
    refine g_middleOf hg' hr (by omega) ?_
    exact wp_ir hk rfl rfl (kk M1 K1)
  · refine wp_tab hk rfl (off := 60) (by rfl) rfl ?_
    repeat (first | refine wp_s hk rfl rfl ?_ | refine wp_goto hk rfl ?_ | refine wp_geti hk rfl rfl rfl rfl ?_ | refine wp_getr hk rfl rfl rfl rfl ?_)
    refine wp_callV hk rfl rfl rfl rfl gS rfl ?_
    refine g_ranks hc' hg' H O hs ?_
    exact wp_ir hk rfl rfl (kk M (Kp.rf _ _))
  · refine wp_tab hk rfl (off := 68) (by rfl) rfl ?_
    repeat (first | refine wp_s hk rfl rfl ?_ | refine wp_goto hk rfl ?_ | refine wp_geti hk rfl rfl rfl rfl ?_ | refine wp_getr hk rfl rfl rfl rfl ?_)
    refine wp_callV hk rfl rfl rfl rfl gS rfl ?_
    refine g_pairs hc' hg' H O hs ?_
    exact wp_ir hk rfl rfl (kk M (Kp.rf _ _))
  · refine wp_tab hk rfl (off := 76) (by rfl) rfl ?_
    repeat (first | refine wp_s hk rfl rfl ?_ | refine wp_goto hk rfl ?_ | refine wp_geti hk rfl rfl rfl rfl ?_ | refine wp_getr hk rfl rfl rfl rfl ?_)
    refine wp_callV hk rfl rfl rfl rfl gS rfl ?_
    refine g_weighted hc' hg' hz' H O HZ OZ hi hkd (by omega) ?_
    exact wp_ir hk rfl rfl (kk M (Kp.rf _ _))
end SCALE2
