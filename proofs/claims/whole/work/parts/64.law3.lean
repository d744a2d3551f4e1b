set_option maxRecDepth 100000 in
theorem lw_c10 {L i : Nat} {xs : Nat → Int32} {M : MM} {S : St} {Q : Option Value → MM → Prop} (hL : L ≤ 2560) (hi : i + 5 ≤ L) (C : ClsInv M S) (R : RefInv M S) (O : StOK S) (kk : LwC L xs Q i) : WPg (some (L, xs)) 107 2136 205 302 [some (.retAddr 0), some (.ref 0), some (.ref 83), some (.int (nI i))] [] M Q := by
  have hk : q_cd 205 = kd_L_law := rfl
  obtain ⟨n1, n2⟩ := lw_n
  refine wp_s hk rfl rfl ?_
  refine wp_s hk rfl rfl ?_
  refine wp_s hk rfl rfl ?_
  refine wp_s hk rfl rfl ?_
  refine wp_s hk rfl rfl ?_
  refine wp_sld (jx := i + 1) hk rfl (q_nadd i 1) (by omega) (by omega) ?_
  refine wp_s hk rfl rfl ?_
  refine wp_s hk rfl rfl ?_
  refine wp_s hk rfl rfl ?_
  refine wp_s hk rfl rfl ?_
  refine wp_sld (jx := i + 2) hk rfl (q_nadd i 2) (by omega) (by omega) ?_
  refine wp_callVg hk rfl rfl rfl rfl rfl rfl n1 n2 ?_
  refine k_part C O (fun M1 K1 => ?_)
  have R1 := R.lo (Lo.kp K1)
  refine wp_s hk rfl rfl ?_
  refine wp_s hk rfl rfl ?_
  refine wp_s hk rfl rfl ?_
  refine wp_s hk rfl rfl ?_
  refine wp_s hk rfl rfl ?_
  refine wp_sld (jx := i + 1) hk rfl (q_nadd i 1) (by omega) (by omega) ?_
  refine wp_s hk rfl rfl ?_
  refine wp_s hk rfl rfl ?_
  refine wp_s hk rfl rfl ?_
  refine wp_s hk rfl rfl ?_
  refine wp_sld (jx := i + 2) hk rfl (q_nadd i 2) (by omega) (by omega) ?_
  refine wp_callVg hk rfl rfl rfl rfl rfl rfl n1 n2 ?_
  refine m_part R1 O (fun M2 F2 => ?_)
  refine wp_iceq hk rfl (fun _ => ?_) (fun h => absurd rfl h)
  exact kk M2 S ((C.kp O K1).hi O (Hi.fr F2)) (R1.fr O F2) O
set_option maxRecDepth 100000 in
theorem lw_c11 {L i : Nat} {xs : Nat → Int32} {M : MM} {S : St} {Q : Option Value → MM → Prop} (hL : L ≤ 2560) (hi : i + 5 ≤ L) (C : ClsInv M S) (R : RefInv M S) (O : StOK S) (kk : LwC L xs Q i) : WPg (some (L, xs)) 107 2136 205 329 [some (.retAddr 0), some (.ref 0), some (.ref 83), some (.int (nI i))] [] M Q := by
  have hk : q_cd 205 = kd_L_law := rfl
  obtain ⟨n1, n2⟩ := lw_n
  refine wp_s hk rfl rfl ?_
  refine wp_s hk rfl rfl ?_
  refine wp_s hk rfl rfl ?_
  refine wp_s hk rfl rfl ?_
  refine wp_s hk rfl rfl ?_
  refine wp_sld (jx := i + 1) hk rfl (q_nadd i 1) (by omega) (by omega) ?_
  refine wp_s hk rfl rfl ?_
  refine wp_s hk rfl rfl ?_
  refine wp_s hk rfl rfl ?_
  refine wp_s hk rfl rfl ?_
  refine wp_sld (jx := i + 2) hk rfl (q_nadd i 2) (by omega) (by omega) ?_
  refine wp_s hk rfl rfl ?_
  refine wp_s hk rfl rfl ?_
  refine wp_s hk rfl rfl ?_
  refine wp_s hk rfl rfl ?_
  refine wp_sld (jx := i + 3) hk rfl (q_nadd i 3) (by omega) (by omega) ?_
  refine wp_callVg hk rfl rfl rfl rfl rfl rfl n1 n2 ?_
  refine k_worth C O (fun M1 K1 => ?_)
  have R1 := R.lo (Lo.kp K1)
  refine wp_s hk rfl rfl ?_
  refine wp_s hk rfl rfl ?_
  refine wp_s hk rfl rfl ?_
  refine wp_s hk rfl rfl ?_
  refine wp_s hk rfl rfl ?_
  refine wp_sld (jx := i + 1) hk rfl (q_nadd i 1) (by omega) (by omega) ?_
  refine wp_s hk rfl rfl ?_
  refine wp_s hk rfl rfl ?_
  refine wp_s hk rfl rfl ?_
  refine wp_s hk rfl rfl ?_
  refine wp_sld (jx := i + 2) hk rfl (q_nadd i 2) (by omega) (by omega) ?_
  refine wp_s hk rfl rfl ?_
  refine wp_s hk rfl rfl ?_
  refine wp_s hk rfl rfl ?_
  refine wp_s hk rfl rfl ?_
  refine wp_sld (jx := i + 3) hk rfl (q_nadd i 3) (by omega) (by omega) ?_
  refine wp_callVg hk rfl rfl rfl rfl rfl rfl n1 n2 ?_
  refine m_worth R1 O (fun M2 F2 => ?_)
  refine wp_iceq hk rfl (fun _ => ?_) (fun h => absurd rfl h)
  exact kk M2 S ((C.kp O K1).hi O (Hi.fr F2)) (R1.fr O F2) O
set_option maxRecDepth 100000 in
theorem lw_c12 {L i : Nat} {xs : Nat → Int32} {M : MM} {S : St} {Q : Option Value → MM → Prop} (hL : L ≤ 2560) (hi : i + 5 ≤ L) (C : ClsInv M S) (R : RefInv M S) (O : StOK S) (kk : LwC L xs Q i) : WPg (some (L, xs)) 107 2136 205 366 [some (.retAddr 0), some (.ref 0), some (.ref 83), some (.int (nI i))] [] M Q := by
  have hk : q_cd 205 = kd_L_law := rfl
  obtain ⟨n1, n2⟩ := lw_n
  refine wp_s hk rfl rfl ?_
  refine wp_s hk rfl rfl ?_
  refine wp_s hk rfl rfl ?_
  refine wp_s hk rfl rfl ?_
  refine wp_s hk rfl rfl ?_
  refine wp_sld (jx := i + 1) hk rfl (q_nadd i 1) (by omega) (by omega) ?_
  refine wp_s hk rfl rfl ?_
  refine wp_s hk rfl rfl ?_
  refine wp_s hk rfl rfl ?_
  refine wp_s hk rfl rfl ?_
  refine wp_sld (jx := i + 2) hk rfl (q_nadd i 2) (by omega) (by omega) ?_
  refine wp_callVg hk rfl rfl rfl rfl rfl rfl n1 n2 ?_
  refine k_place C O (fun M1 K1 => ?_)
  have R1 := R.lo (Lo.kp K1)
  refine wp_s hk rfl rfl ?_
  refine wp_s hk rfl rfl ?_
  refine wp_s hk rfl rfl ?_
  refine wp_s hk rfl rfl ?_
  refine wp_s hk rfl rfl ?_
  refine wp_sld (jx := i + 1) hk rfl (q_nadd i 1) (by omega) (by omega) ?_
  refine wp_s hk rfl rfl ?_
  refine wp_s hk rfl rfl ?_
  refine wp_s hk rfl rfl ?_
  refine wp_s hk rfl rfl ?_
  refine wp_sld (jx := i + 2) hk rfl (q_nadd i 2) (by omega) (by omega) ?_
  refine wp_callVg hk rfl rfl rfl rfl rfl rfl n1 n2 ?_
  refine m_place R1 O (fun M2 F2 => ?_)
  refine wp_iceq hk rfl (fun _ => ?_) (fun h => absurd rfl h)
  exact kk M2 S ((C.kp O K1).hi O (Hi.fr F2)) (R1.fr O F2) O
set_option maxRecDepth 100000 in
theorem lw_c13 {L i : Nat} {xs : Nat → Int32} {M : MM} {S : St} {Q : Option Value → MM → Prop} (hL : L ≤ 2560) (hi : i + 5 ≤ L) (C : ClsInv M S) (R : RefInv M S) (O : StOK S) (kk : LwC L xs Q i) : WPg (some (L, xs)) 107 2136 205 393 [some (.retAddr 0), some (.ref 0), some (.ref 83), some (.int (nI i))] [] M Q := by
  have hk : q_cd 205 = kd_L_law := rfl
  obtain ⟨n1, n2⟩ := lw_n
  refine wp_s hk rfl rfl ?_
  refine wp_s hk rfl rfl ?_
  refine wp_s hk rfl rfl ?_
  refine wp_s hk rfl rfl ?_
  refine wp_s hk rfl rfl ?_
  refine wp_sld (jx := i + 1) hk rfl (q_nadd i 1) (by omega) (by omega) ?_
  refine wp_s hk rfl rfl ?_
  refine wp_s hk rfl rfl ?_
  refine wp_s hk rfl rfl ?_
  refine wp_s hk rfl rfl ?_
  refine wp_sld (jx := i + 2) hk rfl (q_nadd i 2) (by omega) (by omega) ?_
  refine wp_callVg hk rfl rfl rfl rfl rfl rfl n1 n2 ?_
  refine k_order C O (fun M1 K1 => ?_)
  have R1 := R.lo (Lo.kp K1)
  refine wp_s hk rfl rfl ?_
  refine wp_s hk rfl rfl ?_
  refine wp_s hk rfl rfl ?_
  refine wp_s hk rfl rfl ?_
  refine wp_s hk rfl rfl ?_
  refine wp_sld (jx := i + 1) hk rfl (q_nadd i 1) (by omega) (by omega) ?_
  refine wp_s hk rfl rfl ?_
  refine wp_s hk rfl rfl ?_
  refine wp_s hk rfl rfl ?_
  refine wp_s hk rfl rfl ?_
  refine wp_sld (jx := i + 2) hk rfl (q_nadd i 2) (by omega) (by omega) ?_
  refine wp_callVg hk rfl rfl rfl rfl rfl rfl n1 n2 ?_
  refine m_order R1 O (fun M2 F2 => ?_)
  refine wp_iceq hk rfl (fun _ => ?_) (fun h => absurd rfl h)
  exact kk M2 S ((C.kp O K1).hi O (Hi.fr F2)) (R1.fr O F2) O
set_option maxRecDepth 100000 in
theorem lw_c14 {L i : Nat} {xs : Nat → Int32} {M : MM} {S : St} {Q : Option Value → MM → Prop} (hL : L ≤ 2560) (hi : i + 5 ≤ L) (C : ClsInv M S) (R : RefInv M S) (O : StOK S) (kk : LwC L xs Q i) : WPg (some (L, xs)) 107 2136 205 420 [some (.retAddr 0), some (.ref 0), some (.ref 83), some (.int (nI i))] [] M Q := by
  have hk : q_cd 205 = kd_L_law := rfl
  obtain ⟨n1, n2⟩ := lw_n
  refine wp_s hk rfl rfl ?_
  refine wp_s hk rfl rfl ?_
  refine wp_s hk rfl rfl ?_
  refine wp_s hk rfl rfl ?_
  refine wp_s hk rfl rfl ?_
  refine wp_sld (jx := i + 1) hk rfl (q_nadd i 1) (by omega) (by omega) ?_
  refine wp_callVg hk rfl rfl rfl rfl rfl rfl n1 n2 ?_
  refine k_first C O (fun M1 K1 => ?_)
  have R1 := R.lo (Lo.kp K1)
  refine wp_s hk rfl rfl ?_
  refine wp_s hk rfl rfl ?_
  refine wp_s hk rfl rfl ?_
  refine wp_s hk rfl rfl ?_
  refine wp_s hk rfl rfl ?_
  refine wp_sld (jx := i + 1) hk rfl (q_nadd i 1) (by omega) (by omega) ?_
  refine wp_callVg hk rfl rfl rfl rfl rfl rfl n1 n2 ?_
  refine m_first R1 O (fun M2 F2 => ?_)
  refine wp_iceq hk rfl (fun _ => ?_) (fun h => absurd rfl h)
  exact kk M2 S ((C.kp O K1).hi O (Hi.fr F2)) (R1.fr O F2) O
set_option maxRecDepth 100000 in
theorem lw_c15 {L i : Nat} {xs : Nat → Int32} {M : MM} {S : St} {Q : Option Value → MM → Prop} (hL : L ≤ 2560) (hi : i + 5 ≤ L) (C : ClsInv M S) (R : RefInv M S) (O : StOK S) (kk : LwC L xs Q i) : WPg (some (L, xs)) 107 2136 205 437 [some (.retAddr 0), some (.ref 0), some (.ref 83), some (.int (nI i))] [] M Q := by
  have hk : q_cd 205 = kd_L_law := rfl
  obtain ⟨n1, n2⟩ := lw_n
  refine wp_s hk rfl rfl ?_
  refine wp_s hk rfl rfl ?_
  refine wp_s hk rfl rfl ?_
  refine wp_s hk rfl rfl ?_
  refine wp_s hk rfl rfl ?_
  refine wp_sld (jx := i + 1) hk rfl (q_nadd i 1) (by omega) (by omega) ?_
  refine wp_s hk rfl rfl ?_
  refine wp_s hk rfl rfl ?_
  refine wp_s hk rfl rfl ?_
  refine wp_s hk rfl rfl ?_
  refine wp_sld (jx := i + 2) hk rfl (q_nadd i 2) (by omega) (by omega) ?_
  refine wp_callVg hk rfl rfl rfl rfl rfl rfl n1 n2 ?_
  refine k_apart C O (fun M1 K1 => ?_)
  have R1 := R.lo (Lo.kp K1)
  refine wp_s hk rfl rfl ?_
  refine wp_s hk rfl rfl ?_
  refine wp_s hk rfl rfl ?_
  refine wp_s hk rfl rfl ?_
  refine wp_s hk rfl rfl ?_
  refine wp_sld (jx := i + 1) hk rfl (q_nadd i 1) (by omega) (by omega) ?_
  refine wp_s hk rfl rfl ?_
  refine wp_s hk rfl rfl ?_
  refine wp_s hk rfl rfl ?_
  refine wp_s hk rfl rfl ?_
  refine wp_sld (jx := i + 2) hk rfl (q_nadd i 2) (by omega) (by omega) ?_
  refine wp_callVg hk rfl rfl rfl rfl rfl rfl n1 n2 ?_
  refine m_apart R1 O (fun M2 F2 => ?_)
  refine wp_iceq hk rfl (fun _ => ?_) (fun h => absurd rfl h)
  exact kk M2 S ((C.kp O K1).hi O (Hi.fr F2)) (R1.fr O F2) O
set_option maxRecDepth 100000 in
theorem lw_c16 {L i : Nat} {xs : Nat → Int32} {M : MM} {S : St} {Q : Option Value → MM → Prop} (hL : L ≤ 2560) (hi : i + 5 ≤ L) (C : ClsInv M S) (R : RefInv M S) (O : StOK S) (kk : LwC L xs Q i) : WPg (some (L, xs)) 107 2136 205 464 [some (.retAddr 0), some (.ref 0), some (.ref 83), some (.int (nI i))] [] M Q := by
  have hk : q_cd 205 = kd_L_law := rfl
  obtain ⟨n1, n2⟩ := lw_n
  refine wp_s hk rfl rfl ?_
  refine wp_s hk rfl rfl ?_
  refine wp_s hk rfl rfl ?_
  refine wp_s hk rfl rfl ?_
  refine wp_s hk rfl rfl ?_
  refine wp_sld (jx := i + 1) hk rfl (q_nadd i 1) (by omega) (by omega) ?_
  refine wp_s hk rfl rfl ?_
  refine wp_s hk rfl rfl ?_
  refine wp_s hk rfl rfl ?_
  refine wp_s hk rfl rfl ?_
  refine wp_sld (jx := i + 2) hk rfl (q_nadd i 2) (by omega) (by omega) ?_
  refine wp_s hk rfl rfl ?_
  refine wp_s hk rfl rfl ?_
  refine wp_s hk rfl rfl ?_
  refine wp_s hk rfl rfl ?_
  refine wp_sld (jx := i + 3) hk rfl (q_nadd i 3) (by omega) (by omega) ?_
  refine wp_callVg hk rfl rfl rfl rfl rfl rfl n1 n2 ?_
  refine k_could C O (fun M1 K1 => ?_)
  have R1 := R.lo (Lo.kp K1)
  refine wp_s hk rfl rfl ?_
  refine wp_s hk rfl rfl ?_
  refine wp_s hk rfl rfl ?_
  refine wp_s hk rfl rfl ?_
  refine wp_s hk rfl rfl ?_
  refine wp_sld (jx := i + 1) hk rfl (q_nadd i 1) (by omega) (by omega) ?_
  refine wp_s hk rfl rfl ?_
  refine wp_s hk rfl rfl ?_
  refine wp_s hk rfl rfl ?_
  refine wp_s hk rfl rfl ?_
  refine wp_sld (jx := i + 2) hk rfl (q_nadd i 2) (by omega) (by omega) ?_
  refine wp_s hk rfl rfl ?_
  refine wp_s hk rfl rfl ?_
  refine wp_s hk rfl rfl ?_
  refine wp_s hk rfl rfl ?_
  refine wp_sld (jx := i + 3) hk rfl (q_nadd i 3) (by omega) (by omega) ?_
  refine wp_callVg hk rfl rfl rfl rfl rfl rfl n1 n2 ?_
  refine m_could R1 O (fun M2 F2 => ?_)
  refine wp_iceq hk rfl (fun _ => ?_) (fun h => absurd rfl h)
  exact kk M2 S ((C.kp O K1).hi O (Hi.fr F2)) (R1.fr O F2) O
set_option maxRecDepth 100000 in
theorem lw_c17 {L i : Nat} {xs : Nat → Int32} {M : MM} {S : St} {Q : Option Value → MM → Prop} (hL : L ≤ 2560) (hi : i + 5 ≤ L) (C : ClsInv M S) (R : RefInv M S) (O : StOK S) (kk : LwC L xs Q i) : WPg (some (L, xs)) 107 2136 205 501 [some (.retAddr 0), some (.ref 0), some (.ref 83), some (.int (nI i))] [] M Q := by
  have hk : q_cd 205 = kd_L_law := rfl
  obtain ⟨n1, n2⟩ := lw_n
  refine wp_s hk rfl rfl ?_
  refine wp_s hk rfl rfl ?_
  refine wp_s hk rfl rfl ?_
  refine wp_s hk rfl rfl ?_
  refine wp_s hk rfl rfl ?_
  refine wp_sld (jx := i + 1) hk rfl (q_nadd i 1) (by omega) (by omega) ?_
  refine wp_s hk rfl rfl ?_
  refine wp_s hk rfl rfl ?_
  refine wp_s hk rfl rfl ?_
  refine wp_s hk rfl rfl ?_
  refine wp_sld (jx := i + 2) hk rfl (q_nadd i 2) (by omega) (by omega) ?_
  refine wp_s hk rfl rfl ?_
  refine wp_s hk rfl rfl ?_
  refine wp_s hk rfl rfl ?_
  refine wp_s hk rfl rfl ?_
  refine wp_sld (jx := i + 3) hk rfl (q_nadd i 3) (by omega) (by omega) ?_
  refine wp_callVg hk rfl rfl rfl rfl rfl rfl n1 n2 ?_
  refine k_best C O (fun M1 K1 => ?_)
  have R1 := R.lo (Lo.kp K1)
  refine wp_s hk rfl rfl ?_
  refine wp_s hk rfl rfl ?_
  refine wp_s hk rfl rfl ?_
  refine wp_s hk rfl rfl ?_
  refine wp_s hk rfl rfl ?_
  refine wp_sld (jx := i + 1) hk rfl (q_nadd i 1) (by omega) (by omega) ?_
  refine wp_s hk rfl rfl ?_
  refine wp_s hk rfl rfl ?_
  refine wp_s hk rfl rfl ?_
  refine wp_s hk rfl rfl ?_
  refine wp_sld (jx := i + 2) hk rfl (q_nadd i 2) (by omega) (by omega) ?_
  refine wp_s hk rfl rfl ?_
  refine wp_s hk rfl rfl ?_
  refine wp_s hk rfl rfl ?_
  refine wp_s hk rfl rfl ?_
  refine wp_sld (jx := i + 3) hk rfl (q_nadd i 3) (by omega) (by omega) ?_
  refine wp_callVg hk rfl rfl rfl rfl rfl rfl n1 n2 ?_
  refine m_best R1 O (fun M2 F2 => ?_)
  refine wp_iceq hk rfl (fun _ => ?_) (fun h => absurd rfl h)
  exact kk M2 S ((C.kp O K1).hi O (Hi.fr F2)) (R1.fr O F2) O
set_option maxRecDepth 100000 in
theorem lw_c18 {L i : Nat} {xs : Nat → Int32} {M : MM} {S : St} {Q : Option Value → MM → Prop} (hL : L ≤ 2560) (hi : i + 5 ≤ L) (C : ClsInv M S) (R : RefInv M S) (O : StOK S) (kk : LwC L xs Q i) : WPg (some (L, xs)) 107 2136 205 538 [some (.retAddr 0), some (.ref 0), some (.ref 83), some (.int (nI i))] [] M Q := by
  have hk : q_cd 205 = kd_L_law := rfl
  obtain ⟨n1, n2⟩ := lw_n
  refine wp_s hk rfl rfl ?_
  refine wp_s hk rfl rfl ?_
  refine wp_s hk rfl rfl ?_
  refine wp_s hk rfl rfl ?_
  refine wp_s hk rfl rfl ?_
  refine wp_sld (jx := i + 1) hk rfl (q_nadd i 1) (by omega) (by omega) ?_
  refine wp_s hk rfl rfl ?_
  refine wp_s hk rfl rfl ?_
  refine wp_s hk rfl rfl ?_
  refine wp_s hk rfl rfl ?_
  refine wp_sld (jx := i + 2) hk rfl (q_nadd i 2) (by omega) (by omega) ?_
  refine wp_callVg hk rfl rfl rfl rfl rfl rfl n1 n2 ?_
  refine k_bends C O (fun M1 K1 => ?_)
  have R1 := R.lo (Lo.kp K1)
  refine wp_s hk rfl rfl ?_
  refine wp_s hk rfl rfl ?_
  refine wp_s hk rfl rfl ?_
  refine wp_s hk rfl rfl ?_
  refine wp_s hk rfl rfl ?_
  refine wp_sld (jx := i + 1) hk rfl (q_nadd i 1) (by omega) (by omega) ?_
  refine wp_s hk rfl rfl ?_
  refine wp_s hk rfl rfl ?_
  refine wp_s hk rfl rfl ?_
  refine wp_s hk rfl rfl ?_
  refine wp_sld (jx := i + 2) hk rfl (q_nadd i 2) (by omega) (by omega) ?_
  refine wp_callVg hk rfl rfl rfl rfl rfl rfl n1 n2 ?_
  refine m_bends R1 O (fun M2 F2 => ?_)
  refine wp_iceq hk rfl (fun _ => ?_) (fun h => absurd rfl h)
  exact kk M2 S ((C.kp O K1).hi O (Hi.fr F2)) (R1.fr O F2) O
set_option maxRecDepth 100000 in
theorem lw_c19 {L i : Nat} {xs : Nat → Int32} {M : MM} {S : St} {Q : Option Value → MM → Prop} (hL : L ≤ 2560) (hi : i + 5 ≤ L) (C : ClsInv M S) (R : RefInv M S) (O : StOK S) (kk : LwC L xs Q i) : WPg (some (L, xs)) 107 2136 205 565 [some (.retAddr 0), some (.ref 0), some (.ref 83), some (.int (nI i))] [] M Q := by
  have hk : q_cd 205 = kd_L_law := rfl
  obtain ⟨n1, n2⟩ := lw_n
  refine wp_s hk rfl rfl ?_
  refine wp_s hk rfl rfl ?_
  refine wp_s hk rfl rfl ?_
  refine wp_s hk rfl rfl ?_
  refine wp_s hk rfl rfl ?_
  refine wp_sld (jx := i + 1) hk rfl (q_nadd i 1) (by omega) (by omega) ?_
  refine wp_callVg hk rfl rfl rfl rfl rfl rfl n1 n2 ?_
  refine k_bent C O (fun M1 K1 => ?_)
  have R1 := R.lo (Lo.kp K1)
  refine wp_s hk rfl rfl ?_
  refine wp_s hk rfl rfl ?_
  refine wp_s hk rfl rfl ?_
  refine wp_s hk rfl rfl ?_
  refine wp_s hk rfl rfl ?_
  refine wp_sld (jx := i + 1) hk rfl (q_nadd i 1) (by omega) (by omega) ?_
  refine wp_callVg hk rfl rfl rfl rfl rfl rfl n1 n2 ?_
  refine m_bent R1 O (fun M2 F2 => ?_)
  refine wp_iceq hk rfl (fun _ => ?_) (fun h => absurd rfl h)
  exact kk M2 S ((C.kp O K1).hi O (Hi.fr F2)) (R1.fr O F2) O
