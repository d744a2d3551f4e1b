set_option maxRecDepth 100000 in
theorem lw_c30 {L i : Nat} {xs : Nat → Int32} {M : MM} {S : St} {Q : Option Value → MM → Prop} (hL : L ≤ 2560) (hi : i + 5 ≤ L) (C : ClsInv M S) (R : RefInv M S) (O : StOK S) (kk : LwC L xs Q i) : WPg (some (L, xs)) 107 2136 205 842 [some (.retAddr 0), some (.ref 0), some (.ref 83), some (.int (nI i))] [] M Q := by
  have hk : q_cd 205 = kd_L_law := rfl
  obtain ⟨n1, n2⟩ := lw_n
  refine wp_s hk rfl rfl ?_
  refine wp_s hk rfl rfl ?_
  refine wp_s hk rfl rfl ?_
  refine wp_s hk rfl rfl ?_
  refine wp_s hk rfl rfl ?_
  refine wp_sld (jx := i + 1) hk rfl (q_nadd i 1) (by omega) (by omega) ?_
  refine wp_callVg hk rfl rfl rfl rfl rfl rfl n1 n2 ?_
  refine k_lean C O (fun M1 K1 => ?_)
  have R1 := R.lo (Lo.kp K1)
  refine wp_s hk rfl rfl ?_
  refine wp_s hk rfl rfl ?_
  refine wp_s hk rfl rfl ?_
  refine wp_s hk rfl rfl ?_
  refine wp_s hk rfl rfl ?_
  refine wp_sld (jx := i + 1) hk rfl (q_nadd i 1) (by omega) (by omega) ?_
  refine wp_callVg hk rfl rfl rfl rfl rfl rfl n1 n2 ?_
  refine m_lean R1 O (fun M2 F2 => ?_)
  refine wp_iceq hk rfl (fun _ => ?_) (fun h => absurd rfl h)
  exact kk M2 S ((C.kp O K1).hi O (Hi.fr F2)) (R1.fr O F2) O
set_option maxRecDepth 100000 in
theorem lw_c31 {L i : Nat} {xs : Nat → Int32} {M : MM} {S : St} {Q : Option Value → MM → Prop} (hL : L ≤ 2560) (hi : i + 5 ≤ L) (C : ClsInv M S) (R : RefInv M S) (O : StOK S) (kk : LwC L xs Q i) : WPg (some (L, xs)) 107 2136 205 859 [some (.retAddr 0), some (.ref 0), some (.ref 83), some (.int (nI i))] [] M Q := by
  have hk : q_cd 205 = kd_L_law := rfl
  obtain ⟨n1, n2⟩ := lw_n
  refine wp_s hk rfl rfl ?_
  refine wp_s hk rfl rfl ?_
  refine wp_s hk rfl rfl ?_
  refine wp_s hk rfl rfl ?_
  refine wp_s hk rfl rfl ?_
  refine wp_sld (jx := i + 1) hk rfl (q_nadd i 1) (by omega) (by omega) ?_
  refine wp_callVg hk rfl rfl rfl rfl rfl rfl n1 n2 ?_
  refine k_seldom C O (fun M1 K1 => ?_)
  have R1 := R.lo (Lo.kp K1)
  refine wp_s hk rfl rfl ?_
  refine wp_s hk rfl rfl ?_
  refine wp_s hk rfl rfl ?_
  refine wp_s hk rfl rfl ?_
  refine wp_s hk rfl rfl ?_
  refine wp_sld (jx := i + 1) hk rfl (q_nadd i 1) (by omega) (by omega) ?_
  refine wp_callVg hk rfl rfl rfl rfl rfl rfl n1 n2 ?_
  refine m_seldom R1 O (fun M2 F2 => ?_)
  refine wp_iceq hk rfl (fun _ => ?_) (fun h => absurd rfl h)
  exact kk M2 S ((C.kp O K1).hi O (Hi.fr F2)) (R1.fr O F2) O
set_option maxRecDepth 100000 in
theorem lw_c32 {L i : Nat} {xs : Nat → Int32} {M : MM} {S : St} {Q : Option Value → MM → Prop} (hL : L ≤ 2560) (hi : i + 5 ≤ L) (C : ClsInv M S) (R : RefInv M S) (O : StOK S) (kk : LwC L xs Q i) : WPg (some (L, xs)) 107 2136 205 876 [some (.retAddr 0), some (.ref 0), some (.ref 83), some (.int (nI i))] [] M Q := by
  have hk : q_cd 205 = kd_L_law := rfl
  obtain ⟨n1, n2⟩ := lw_n
  refine wp_s hk rfl rfl ?_
  refine wp_callVg hk rfl rfl rfl rfl rfl rfl n1 n2 ?_
  refine k_leaner C O (fun M1 K1 => ?_)
  have R1 := R.lo (Lo.kp K1)
  refine wp_s hk rfl rfl ?_
  refine wp_callVg hk rfl rfl rfl rfl rfl rfl n1 n2 ?_
  refine m_leaner R1 O (fun M2 F2 => ?_)
  refine wp_iceq hk rfl (fun _ => ?_) (fun h => absurd rfl h)
  exact kk M2 S ((C.kp O K1).hi O (Hi.fr F2)) (R1.fr O F2) O
set_option maxRecDepth 100000 in
theorem lw_c33 {L i : Nat} {xs : Nat → Int32} {M : MM} {S : St} {Q : Option Value → MM → Prop} (hL : L ≤ 2560) (hi : i + 5 ≤ L) (C : ClsInv M S) (R : RefInv M S) (O : StOK S) (kk : LwC L xs Q i) : WPg (some (L, xs)) 107 2136 205 883 [some (.retAddr 0), some (.ref 0), some (.ref 83), some (.int (nI i))] [] M Q := by
  have hk : q_cd 205 = kd_L_law := rfl
  obtain ⟨n1, n2⟩ := lw_n
  refine wp_s hk rfl rfl ?_
  refine wp_s hk rfl rfl ?_
  refine wp_s hk rfl rfl ?_
  refine wp_s hk rfl rfl ?_
  refine wp_s hk rfl rfl ?_
  refine wp_sld (jx := i + 1) hk rfl (q_nadd i 1) (by omega) (by omega) ?_
  refine wp_callVg hk rfl rfl rfl rfl rfl rfl n1 n2 ?_
  refine k_again C O (fun M1 C1 L1 => ?_)
  have R1 := R.lo L1
  refine wp_s hk rfl rfl ?_
  refine wp_s hk rfl rfl ?_
  refine wp_s hk rfl rfl ?_
  refine wp_s hk rfl rfl ?_
  refine wp_s hk rfl rfl ?_
  refine wp_sld (jx := i + 1) hk rfl (q_nadd i 1) (by omega) (by omega) ?_
  refine wp_callVg hk rfl rfl rfl rfl rfl rfl n1 n2 ?_
  refine m_again R1 O (fun M2 R2 H2 => ?_)
  refine wp_iceq hk rfl (fun _ => ?_) (fun h => absurd rfl h)
  exact kk M2 _ (C1.hi (ok_again O) H2) R2 (ok_again O)
set_option maxRecDepth 100000 in
theorem lw_c34 {L i : Nat} {xs : Nat → Int32} {M : MM} {S : St} {Q : Option Value → MM → Prop} (hL : L ≤ 2560) (hi : i + 5 ≤ L) (C : ClsInv M S) (R : RefInv M S) (O : StOK S) (kk : LwC L xs Q i) : WPg (some (L, xs)) 107 2136 205 900 [some (.retAddr 0), some (.ref 0), some (.ref 83), some (.int (nI i))] [] M Q := by
  have hk : q_cd 205 = kd_L_law := rfl
  obtain ⟨n1, n2⟩ := lw_n
  refine wp_s hk rfl rfl ?_
  refine wp_s hk rfl rfl ?_
  refine wp_s hk rfl rfl ?_
  refine wp_s hk rfl rfl ?_
  refine wp_s hk rfl rfl ?_
  refine wp_sld (jx := i + 1) hk rfl (q_nadd i 1) (by omega) (by omega) ?_
  refine wp_s hk rfl rfl ?_
  refine wp_s hk rfl rfl ?_
  refine wp_s hk rfl rfl ?_
  refine wp_s hk rfl rfl ?_
  refine wp_sld (jx := i + 2) hk rfl (q_nadd i 2) (by omega) (by omega) ?_
  refine wp_s hk rfl rfl ?_
  refine wp_s hk rfl rfl ?_
  refine wp_s hk rfl rfl ?_
  refine wp_s hk rfl rfl ?_
  refine wp_sld (jx := i + 3) hk rfl (q_nadd i 3) (by omega) (by omega) ?_
  refine wp_callVg hk rfl rfl rfl rfl rfl rfl n1 n2 ?_
  refine k_minded C O (fun M1 K1 => ?_)
  have R1 := R.lo (Lo.kp K1)
  refine wp_s hk rfl rfl ?_
  refine wp_s hk rfl rfl ?_
  refine wp_s hk rfl rfl ?_
  refine wp_s hk rfl rfl ?_
  refine wp_s hk rfl rfl ?_
  refine wp_sld (jx := i + 1) hk rfl (q_nadd i 1) (by omega) (by omega) ?_
  refine wp_s hk rfl rfl ?_
  refine wp_s hk rfl rfl ?_
  refine wp_s hk rfl rfl ?_
  refine wp_s hk rfl rfl ?_
  refine wp_sld (jx := i + 2) hk rfl (q_nadd i 2) (by omega) (by omega) ?_
  refine wp_s hk rfl rfl ?_
  refine wp_s hk rfl rfl ?_
  refine wp_s hk rfl rfl ?_
  refine wp_s hk rfl rfl ?_
  refine wp_sld (jx := i + 3) hk rfl (q_nadd i 3) (by omega) (by omega) ?_
  refine wp_callVg hk rfl rfl rfl rfl rfl rfl n1 n2 ?_
  refine m_minded R1 O (fun M2 F2 => ?_)
  refine wp_iceq hk rfl (fun _ => ?_) (fun h => absurd rfl h)
  exact kk M2 S ((C.kp O K1).hi O (Hi.fr F2)) (R1.fr O F2) O
set_option maxRecDepth 100000 in
theorem lw_c35 {L i : Nat} {xs : Nat → Int32} {M : MM} {S : St} {Q : Option Value → MM → Prop} (hL : L ≤ 2560) (hi : i + 5 ≤ L) (C : ClsInv M S) (R : RefInv M S) (O : StOK S) (kk : LwC L xs Q i) : WPg (some (L, xs)) 107 2136 205 937 [some (.retAddr 0), some (.ref 0), some (.ref 83), some (.int (nI i))] [] M Q := by
  have hk : q_cd 205 = kd_L_law := rfl
  obtain ⟨n1, n2⟩ := lw_n
  refine wp_s hk rfl rfl ?_
  refine wp_s hk rfl rfl ?_
  refine wp_s hk rfl rfl ?_
  refine wp_s hk rfl rfl ?_
  refine wp_s hk rfl rfl ?_
  refine wp_sld (jx := i + 1) hk rfl (q_nadd i 1) (by omega) (by omega) ?_
  refine wp_s hk rfl rfl ?_
  refine wp_s hk rfl rfl ?_
  refine wp_s hk rfl rfl ?_
  refine wp_s hk rfl rfl ?_
  refine wp_sld (jx := i + 2) hk rfl (q_nadd i 2) (by omega) (by omega) ?_
  refine wp_callVg hk rfl rfl rfl rfl rfl rfl n1 n2 ?_
  refine k_rest C O (fun M1 K1 => ?_)
  have R1 := R.lo (Lo.kp K1)
  refine wp_s hk rfl rfl ?_
  refine wp_s hk rfl rfl ?_
  refine wp_s hk rfl rfl ?_
  refine wp_s hk rfl rfl ?_
  refine wp_s hk rfl rfl ?_
  refine wp_sld (jx := i + 1) hk rfl (q_nadd i 1) (by omega) (by omega) ?_
  refine wp_s hk rfl rfl ?_
  refine wp_s hk rfl rfl ?_
  refine wp_s hk rfl rfl ?_
  refine wp_s hk rfl rfl ?_
  refine wp_sld (jx := i + 2) hk rfl (q_nadd i 2) (by omega) (by omega) ?_
  refine wp_callVg hk rfl rfl rfl rfl rfl rfl n1 n2 ?_
  refine m_rest R1 O (fun M2 F2 => ?_)
  refine wp_iceq hk rfl (fun _ => ?_) (fun h => absurd rfl h)
  exact kk M2 S ((C.kp O K1).hi O (Hi.fr F2)) (R1.fr O F2) O
set_option maxRecDepth 100000 in
theorem lw_c36 {L i : Nat} {xs : Nat → Int32} {M : MM} {S : St} {Q : Option Value → MM → Prop} (hL : L ≤ 2560) (hi : i + 5 ≤ L) (C : ClsInv M S) (R : RefInv M S) (O : StOK S) (kk : LwC L xs Q i) : WPg (some (L, xs)) 107 2136 205 964 [some (.retAddr 0), some (.ref 0), some (.ref 83), some (.int (nI i))] [] M Q := by
  have hk : q_cd 205 = kd_L_law := rfl
  obtain ⟨n1, n2⟩ := lw_n
  by_cases hz : xs (i + 2) = 0
  · refine wp_s hk rfl rfl ?_
    refine wp_s hk rfl rfl ?_
    refine wp_s hk rfl rfl ?_
    refine wp_s hk rfl rfl ?_
    refine wp_s hk rfl rfl ?_
    refine wp_sld (jx := i + 1) hk rfl (q_nadd i 1) (by omega) (by omega) ?_
    refine wp_s hk rfl rfl ?_
    refine wp_s hk rfl rfl ?_
    refine wp_s hk rfl rfl ?_
    refine wp_s hk rfl rfl ?_
    refine wp_sld (jx := i + 2) hk rfl (q_nadd i 2) (by omega) (by omega) ?_
    refine wp_ifeq hk rfl (fun _ => ?_) (fun h => absurd hz h)
    refine wp_s hk rfl rfl ?_
    refine wp_callVg hk rfl rfl rfl rfl rfl rfl n1 n2 ?_
    refine k_rests (told := false) C O (fun M1 K1 => ?_)
    have R1 := R.lo (Lo.kp K1)
    refine wp_s hk rfl rfl ?_
    refine wp_s hk rfl rfl ?_
    refine wp_s hk rfl rfl ?_
    refine wp_s hk rfl rfl ?_
    refine wp_s hk rfl rfl ?_
    refine wp_sld (jx := i + 1) hk rfl (q_nadd i 1) (by omega) (by omega) ?_
    refine wp_s hk rfl rfl ?_
    refine wp_s hk rfl rfl ?_
    refine wp_s hk rfl rfl ?_
    refine wp_s hk rfl rfl ?_
    refine wp_sld (jx := i + 2) hk rfl (q_nadd i 2) (by omega) (by omega) ?_
    refine wp_ifeq hk rfl (fun _ => ?_) (fun h => absurd hz h)
    refine wp_s hk rfl rfl ?_
    refine wp_callVg hk rfl rfl rfl rfl rfl rfl n1 n2 ?_
    refine m_rests (told := false) R1 O (fun M2 F2 => ?_)
    refine wp_iceq hk rfl (fun _ => ?_) (fun h => absurd rfl h)
    exact kk M2 S ((C.kp O K1).hi O (Hi.fr F2)) (R1.fr O F2) O
  · refine wp_s hk rfl rfl ?_
    refine wp_s hk rfl rfl ?_
    refine wp_s hk rfl rfl ?_
    refine wp_s hk rfl rfl ?_
    refine wp_s hk rfl rfl ?_
    refine wp_sld (jx := i + 1) hk rfl (q_nadd i 1) (by omega) (by omega) ?_
    refine wp_s hk rfl rfl ?_
    refine wp_s hk rfl rfl ?_
    refine wp_s hk rfl rfl ?_
    refine wp_s hk rfl rfl ?_
    refine wp_sld (jx := i + 2) hk rfl (q_nadd i 2) (by omega) (by omega) ?_
    refine wp_ifeq hk rfl (fun h => absurd h hz) (fun _ => ?_)
    refine wp_s hk rfl rfl ?_
    refine wp_goto hk rfl ?_
    refine wp_callVg hk rfl rfl rfl rfl rfl rfl n1 n2 ?_
    refine k_rests (told := true) C O (fun M1 K1 => ?_)
    have R1 := R.lo (Lo.kp K1)
    refine wp_s hk rfl rfl ?_
    refine wp_s hk rfl rfl ?_
    refine wp_s hk rfl rfl ?_
    refine wp_s hk rfl rfl ?_
    refine wp_s hk rfl rfl ?_
    refine wp_sld (jx := i + 1) hk rfl (q_nadd i 1) (by omega) (by omega) ?_
    refine wp_s hk rfl rfl ?_
    refine wp_s hk rfl rfl ?_
    refine wp_s hk rfl rfl ?_
    refine wp_s hk rfl rfl ?_
    refine wp_sld (jx := i + 2) hk rfl (q_nadd i 2) (by omega) (by omega) ?_
    refine wp_ifeq hk rfl (fun h => absurd h hz) (fun _ => ?_)
    refine wp_s hk rfl rfl ?_
    refine wp_goto hk rfl ?_
    refine wp_callVg hk rfl rfl rfl rfl rfl rfl n1 n2 ?_
    refine m_rests (told := true) R1 O (fun M2 F2 => ?_)
    refine wp_iceq hk rfl (fun _ => ?_) (fun h => absurd rfl h)
    exact kk M2 S ((C.kp O K1).hi O (Hi.fr F2)) (R1.fr O F2) O
set_option maxRecDepth 100000 in
theorem lw_c37 {L i : Nat} {xs : Nat → Int32} {M : MM} {S : St} {Q : Option Value → MM → Prop} (hL : L ≤ 2560) (hi : i + 5 ≤ L) (C : ClsInv M S) (R : RefInv M S) (O : StOK S) (kk : LwC L xs Q i) : WPg (some (L, xs)) 107 2136 205 999 [some (.retAddr 0), some (.ref 0), some (.ref 83), some (.int (nI i))] [] M Q := by
  have hk : q_cd 205 = kd_L_law := rfl
  obtain ⟨n1, n2⟩ := lw_n
  refine wp_s hk rfl rfl ?_
  refine wp_s hk rfl rfl ?_
  refine wp_s hk rfl rfl ?_
  refine wp_s hk rfl rfl ?_
  refine wp_s hk rfl rfl ?_
  refine wp_sld (jx := i + 1) hk rfl (q_nadd i 1) (by omega) (by omega) ?_
  refine wp_callVg hk rfl rfl rfl rfl rfl rfl n1 n2 ?_
  refine k_count C O (fun M1 K1 => ?_)
  have R1 := R.lo (Lo.kp K1)
  refine wp_s hk rfl rfl ?_
  refine wp_s hk rfl rfl ?_
  refine wp_s hk rfl rfl ?_
  refine wp_s hk rfl rfl ?_
  refine wp_s hk rfl rfl ?_
  refine wp_sld (jx := i + 1) hk rfl (q_nadd i 1) (by omega) (by omega) ?_
  refine wp_callVg hk rfl rfl rfl rfl rfl rfl n1 n2 ?_
  refine m_count R1 O (fun M2 F2 => ?_)
  refine wp_iceq hk rfl (fun _ => ?_) (fun h => absurd rfl h)
  exact kk M2 S ((C.kp O K1).hi O (Hi.fr F2)) (R1.fr O F2) O
