/-! methods as Lean functions, by wip/whole/gen_fun.py -/
/-- SeasonYard.isIn(III)Z -/
noncomputable def f_Y_isIn (a0 : Int32) (a1 : Int32) (a2 : Int32) (σ : zS) : Option (Int32) :=
  if a0 < a1 then
    some (0 : Int32)
  else
    if a2 < a0 then
      some (0 : Int32)
    else
      some (1 : Int32)
/-- SeasonYard$Tape.add(I)Z -/
noncomputable def f_Tp_add_35 (a1 : Int32) (σ : zS) : Option (Int32 × zS) :=
  if (σ 35 1) < (160 : Int32) then
    if z_ib (σ 35 1) 160 = true then
    z_let (z_u σ 36 (σ 35 1).toNatClampNeg (vp_nar .byte (a1.toInt8.toInt32))) fun τ3 =>
    z_let (z_u τ3 35 1 ((τ3 35 1) + (1 : Int32))) fun τ4 =>
    some ((1 : Int32), τ4)
    else none
  else
    some ((0 : Int32), σ)
/-- SeasonYard.feed(I)I -/
noncomputable def f_Y_feed (a1 : Int32) (σ : zS) : Option (Int32 × zS) :=
  (f_Y_isIn a1 (0 : Int32) (127 : Int32) σ).bind fun r1 =>
  if r1 = 0 then
    some ((-1 : Int32), σ)
  else
    (f_Tp_add_35 a1 σ).bind fun r3 =>
    if r3.1 = 0 then
      some ((-3 : Int32), r3.2)
    else
      some ((r3.2 35 1), r3.2)
/-- SeasonYardModel.in(JJJ)Z -/
noncomputable def f_M_in (a0 : Int64) (a1 : Int64) (a2 : Int64) (σ : zS) : Option (Int32) :=
  if (lg_cmp a0 a1) < 0 then
    some (0 : Int32)
  else
    if 0 < (lg_cmp a0 a2) then
      some (0 : Int32)
    else
      some (1 : Int32)
/-- SeasonYardModel.feed(I)I -/
noncomputable def f_M_feed (a1 : Int32) (σ : zS) : Option (Int32 × zS) :=
  (f_M_in (a1.toInt64) (0 : Int64) (127 : Int64) σ).bind fun r1 =>
  if r1 = 0 then
    some ((-1 : Int32), σ)
  else
    if (σ 90 13) = (160 : Int32) then
      some ((-3 : Int32), σ)
    else
      if z_ib (σ 90 13) 160 = true then
      z_let (z_u σ 95 (σ 90 13).toNatClampNeg a1) fun τ5 =>
      z_let (z_u τ5 90 13 ((τ5 90 13) + (1 : Int32))) fun τ6 =>
      some ((τ6 90 13), τ6)
      else none
/-- SeasonYard.end(I)I -/
noncomputable def f_Y_end (a1 : Int32) (σ : zS) : Option (Int32 × zS) :=
  (f_Y_isIn a1 (0 : Int32) (σ 35 1) σ).bind fun r1 =>
  if r1 = 0 then
    some ((-1 : Int32), σ)
  else
    z_let (z_u σ 35 1 a1) fun τ3 =>
    some ((σ 35 1), τ3)
/-- SeasonYardModel.end(I)I -/
noncomputable def f_M_end (a1 : Int32) (σ : zS) : Option (Int32 × zS) :=
  (f_M_in (a1.toInt64) (0 : Int64) ((σ 90 13).toInt64) σ).bind fun r1 =>
  if r1 = 0 then
    some ((-1 : Int32), σ)
  else
    z_let (z_u σ 90 13 a1) fun τ3 =>
    some ((σ 90 13), τ3)
/-- java/util/Arrays.fill([II)V -/
noncomputable def f_JA_fill_18 (a1 : Int32) (σ : zS) : Option (zS) :=
  (z_loop (S := Int32 × zS) (β := zS) (fun s1 =>
      if (16 : Int32) ≤ s1.1 then
        some (.inr s1.2)
      else
        if z_ib s1.1 16 = true then
        z_let (z_u s1.2 18 s1.1.toNatClampNeg a1) fun τ4 =>
        some (.inl ((s1.1 + (1 : Int32)), τ4))
        else none
    ) ((0 : Int32), σ)).bind (fun b1 =>
      some b1
    )
/-- java/util/Arrays.fill([II)V -/
noncomputable def f_JA_fill_19 (a1 : Int32) (σ : zS) : Option (zS) :=
  (z_loop (S := Int32 × zS) (β := zS) (fun s1 =>
      if (16 : Int32) ≤ s1.1 then
        some (.inr s1.2)
      else
        if z_ib s1.1 16 = true then
        z_let (z_u s1.2 19 s1.1.toNatClampNeg a1) fun τ4 =>
        some (.inl ((s1.1 + (1 : Int32)), τ4))
        else none
    ) ((0 : Int32), σ)).bind (fun b1 =>
      some b1
    )
/-- java/util/Arrays.fill([II)V -/
noncomputable def f_JA_fill_20 (a1 : Int32) (σ : zS) : Option (zS) :=
  (z_loop (S := Int32 × zS) (β := zS) (fun s1 =>
      if (16 : Int32) ≤ s1.1 then
        some (.inr s1.2)
      else
        if z_ib s1.1 16 = true then
        z_let (z_u s1.2 20 s1.1.toNatClampNeg a1) fun τ4 =>
        some (.inl ((s1.1 + (1 : Int32)), τ4))
        else none
    ) ((0 : Int32), σ)).bind (fun b1 =>
      some b1
    )
/-- java/util/Arrays.fill([II)V -/
noncomputable def f_JA_fill_21 (a1 : Int32) (σ : zS) : Option (zS) :=
  (z_loop (S := Int32 × zS) (β := zS) (fun s1 =>
      if (16 : Int32) ≤ s1.1 then
        some (.inr s1.2)
      else
        if z_ib s1.1 16 = true then
        z_let (z_u s1.2 21 s1.1.toNatClampNeg a1) fun τ4 =>
        some (.inl ((s1.1 + (1 : Int32)), τ4))
        else none
    ) ((0 : Int32), σ)).bind (fun b1 =>
      some b1
    )
/-- java/util/Arrays.fill([II)V -/
noncomputable def f_JA_fill_22 (a1 : Int32) (σ : zS) : Option (zS) :=
  (z_loop (S := Int32 × zS) (β := zS) (fun s1 =>
      if (16 : Int32) ≤ s1.1 then
        some (.inr s1.2)
      else
        if z_ib s1.1 16 = true then
        z_let (z_u s1.2 22 s1.1.toNatClampNeg a1) fun τ4 =>
        some (.inl ((s1.1 + (1 : Int32)), τ4))
        else none
    ) ((0 : Int32), σ)).bind (fun b1 =>
      some b1
    )
/-- java/util/Arrays.fill([II)V -/
noncomputable def f_JA_fill_28 (a1 : Int32) (σ : zS) : Option (zS) :=
  (z_loop (S := Int32 × zS) (β := zS) (fun s1 =>
      if (4 : Int32) ≤ s1.1 then
        some (.inr s1.2)
      else
        if z_ib s1.1 4 = true then
        z_let (z_u s1.2 28 s1.1.toNatClampNeg a1) fun τ4 =>
        some (.inl ((s1.1 + (1 : Int32)), τ4))
        else none
    ) ((0 : Int32), σ)).bind (fun b1 =>
      some b1
    )
/-- java/util/Arrays.fill([II)V -/
noncomputable def f_JA_fill_29 (a1 : Int32) (σ : zS) : Option (zS) :=
  (z_loop (S := Int32 × zS) (β := zS) (fun s1 =>
      if (4 : Int32) ≤ s1.1 then
        some (.inr s1.2)
      else
        if z_ib s1.1 4 = true then
        z_let (z_u s1.2 29 s1.1.toNatClampNeg a1) fun τ4 =>
        some (.inl ((s1.1 + (1 : Int32)), τ4))
        else none
    ) ((0 : Int32), σ)).bind (fun b1 =>
      some b1
    )
/-- SeasonYard$Shop.clear()V -/
noncomputable def f_Sp_clear_27  (σ : zS) : Option (zS) :=
  (f_JA_fill_28 (0 : Int32) σ).bind fun r1 =>
  (f_JA_fill_29 (1 : Int32) r1).bind fun r2 =>
  z_let (z_u r2 27 2 (0 : Int32)) fun τ3 =>
  some τ3
/-- java/util/Arrays.fill([II)V -/
noncomputable def f_JA_fill_30 (a1 : Int32) (σ : zS) : Option (zS) :=
  (z_loop (S := Int32 × zS) (β := zS) (fun s1 =>
      if (3 : Int32) ≤ s1.1 then
        some (.inr s1.2)
      else
        if z_ib s1.1 3 = true then
        z_let (z_u s1.2 30 s1.1.toNatClampNeg a1) fun τ4 =>
        some (.inl ((s1.1 + (1 : Int32)), τ4))
        else none
    ) ((0 : Int32), σ)).bind (fun b1 =>
      some b1
    )
/-- SeasonYard$Garden.clear()V -/
noncomputable def f_G_clear_17  (σ : zS) : Option (zS) :=
  z_let (z_u σ 17 0 (2 : Int32)) fun τ1 =>
  z_let (z_u τ1 17 1 (2 : Int32)) fun τ2 =>
  (f_JA_fill_18 (4 : Int32) τ2).bind fun r3 =>
  (f_JA_fill_19 (0 : Int32) r3).bind fun r4 =>
  (f_JA_fill_20 (-4 : Int32) r4).bind fun r5 =>
  (f_JA_fill_21 (0 : Int32) r5).bind fun r6 =>
  (f_JA_fill_22 (0 : Int32) r6).bind fun r7 =>
  z_let (z_u r7 17 7 (0 : Int32)) fun τ8 =>
  z_let (z_u τ8 23 3 (0 : Int32)) fun τ9 =>
  (f_Sp_clear_27 τ9).bind fun r10 =>
  z_let (z_u r10 17 10 (0 : Int32)) fun τ11 =>
  (f_JA_fill_30 (0 : Int32) τ11).bind fun r12 =>
  z_let (z_u r12 17 12 (0 : Int32)) fun τ13 =>
  z_let (z_u τ13 17 13 (0 : Int32)) fun τ14 =>
  some τ14
/-- SeasonYard$Tokens.begin()V -/
noncomputable def f_Tk_begin_40  (σ : zS) : Option (zS) :=
  z_let (z_u σ 40 4 (0 : Int32)) fun τ1 =>
  some τ1
/-- java/util/Arrays.fill([II)V -/
noncomputable def f_JA_fill_38 (a1 : Int32) (σ : zS) : Option (zS) :=
  (z_loop (S := Int32 × zS) (β := zS) (fun s1 =>
      if (8 : Int32) ≤ s1.1 then
        some (.inr s1.2)
      else
        if z_ib s1.1 8 = true then
        z_let (z_u s1.2 38 s1.1.toNatClampNeg a1) fun τ4 =>
        some (.inl ((s1.1 + (1 : Int32)), τ4))
        else none
    ) ((0 : Int32), σ)).bind (fun b1 =>
      some b1
    )
/-- SeasonYard$Tape.at(I)I -/
noncomputable def f_Tp_at_35 (a1 : Int32) (σ : zS) : Option (Int32) :=
  if a1 < 0 then
    some (-4 : Int32)
  else
    if (σ 35 1) ≤ a1 then
      some (-4 : Int32)
    else
      if (160 : Int32) ≤ a1 then
        some (-4 : Int32)
      else
        if z_ib a1 160 = true then
        some (σ 36 a1.toNatClampNeg)
        else none
/-- SeasonYard$Tokens.behindAll(III)I -/
noncomputable def f_Tk_behindAll_40 (a1 : Int32) (a2 : Int32) (a3 : Int32) (σ : zS) : Option (Int32) :=
  (z_loop (S := Int32) (β := Int32) (fun s1 =>
      if (σ 35 1) ≤ s1 then
        some (.inr s1)
      else
        (f_Tp_at_35 s1 σ).bind fun r3 =>
        (f_Y_isIn r3 a1 a2 σ).bind fun r4 =>
        if r4 = 0 then
          some (.inr s1)
        else
          some (.inl (s1 + (1 : Int32)))
    ) a3).bind (fun b1 =>
      some b1
    )
/-- SeasonYard$Tokens.numberHere()I -/
noncomputable def f_Tk_numberHere_40  (σ : zS) : Option (Int32) :=
  (z_loop (S := Int32 × Int32) (β := Int32) (fun s1 =>
      if (σ 40 4) ≤ s1.2 then
        some (.inr s1.1)
      else
        (f_Tp_at_35 s1.2 σ).bind fun r3 =>
        z_let ((((10 : Int32) * s1.1) + r3) - (48 : Int32)) fun v4 =>
        some (.inl (v4, (s1.2 + (1 : Int32))))
    ) ((0 : Int32), (σ 40 2))).bind (fun b1 =>
      some b1
    )
/-- SeasonYard$Tokens.move()V -/
noncomputable def f_Tk_move_40  (σ : zS) : Option (zS) :=
  (f_Tk_behindAll_40 (32 : Int32) (32 : Int32) (σ 40 4) σ).bind fun r1 =>
  z_let (z_u σ 40 2 r1) fun τ2 =>
  z_let (z_u τ2 40 4 ((τ2 40 2) + (1 : Int32))) fun τ3 =>
  (f_Tp_at_35 (τ3 40 2) τ3).bind fun r4 =>
  if (τ3 40 2) < (τ3 35 1) then
    if r4 = (59 : Int32) then
      z_let (z_u τ3 40 1 (3 : Int32)) fun τ7 =>
      some τ7
    else
      (f_Y_isIn r4 (97 : Int32) (122 : Int32) τ3).bind fun r8 =>
      if r8 = 0 then
        (f_Y_isIn r4 (48 : Int32) (57 : Int32) τ3).bind fun r10 =>
        if r10 = 0 then
          z_let (z_u τ3 40 1 (4 : Int32)) fun τ12 =>
          some τ12
        else
          (f_Tk_behindAll_40 (48 : Int32) (57 : Int32) (τ3 40 2) τ3).bind fun r13 =>
          z_let (z_u τ3 40 4 r13) fun τ14 =>
          z_join (T := Int32) (fun t15 =>
              z_let (z_u τ14 40 1 t15) fun τ16 =>
              z_join (T := Int32) (fun t17 =>
                  z_let (z_u τ16 40 3 t17) fun τ18 =>
                  some τ18
                ) (fun j17 =>
                  if (τ16 40 1) = (2 : Int32) then
                    (f_Tk_numberHere_40 τ16).bind fun r20 =>
                    j17 r20
                  else
                    j17 (0 : Int32)
                )
            ) (fun j15 =>
              if ((τ14 40 4) - (τ14 40 2)) ≤ (2 : Int32) then
                j15 (2 : Int32)
              else
                j15 (4 : Int32)
            )
      else
        z_let (z_u τ3 40 1 (1 : Int32)) fun τ22 =>
        (f_Tk_behindAll_40 (97 : Int32) (122 : Int32) (τ22 40 2) τ22).bind fun r23 =>
        z_let (z_u τ22 40 4 r23) fun τ24 =>
        some τ24
  else
    z_let (z_u τ3 40 1 (0 : Int32)) fun τ25 =>
    z_let (z_u τ25 40 4 (τ25 40 2)) fun τ26 =>
    some τ26
/-- SeasonYard$TextReader.lineName(I)Ljava/lang/String; -/
noncomputable def f_Tr_lineName (a0 : Int32) (σ : zS) : Option (Nat) :=
  if a0 = (0 : Int32) then
    some 2000
  else
  if a0 = (1 : Int32) then
    some 2001
  else
  if a0 = (2 : Int32) then
    some 2002
  else
  if a0 = (3 : Int32) then
    some 2003
  else
  if a0 = (4 : Int32) then
    some 2004
  else
  if a0 = (5 : Int32) then
    some 2005
  else
  if a0 = (6 : Int32) then
    some 2006
  else
    some 2007
/-- java/lang/String.coder()B -/
noncomputable def f_JS_coder (a0 : Nat) (σ : zS) : Option (Int32) :=
  if (1 : Int32) = 0 then
    some (1 : Int32)
  else
    if 2000 ≤ a0 ∧ a0 < 2013 then
    some (0 : Int32)
    else none
/-- java/lang/String.length()I -/
noncomputable def f_JS_length (a0 : Nat) (σ : zS) : Option (Int32) :=
  if 2000 ≤ a0 ∧ a0 < 2013 then
  if 3000 ≤ (a0 + 1000) ∧ (a0 + 1000) < 3013 then
  if 2000 ≤ a0 ∧ a0 < 2013 then
  ((f_JS_coder a0 σ).bind fun r3 =>
  some ((Int32.ofNat (z_tl.getD ((a0 + 1000) - 3000) 0)) >>> (r3 &&& 31))
  ) else none
  else none
  else none
/-- java/lang/String.isLatin1()Z -/
noncomputable def f_JS_isLatin1 (a0 : Nat) (σ : zS) : Option (Int32) :=
  if (1 : Int32) = 0 then
    some (0 : Int32)
  else
    if 2000 ≤ a0 ∧ a0 < 2013 then
    if (0 : Int32) = 0 then
      some (1 : Int32)
    else
      some (0 : Int32)
    else none
/-- jdk/internal/util/Preconditions.checkIndex(IILjava/util/function/BiFunction;)I -/
noncomputable def f_JP_checkIndex_4001 (a0 : Int32) (a1 : Int32) (σ : zS) : Option (Int32) :=
  z_join (T := Unit) (fun t1 =>
      none
    ) (fun j1 =>
      if a0 < 0 then
        none
      else
        if a0 < a1 then
          some a0
        else
          none
    )
/-- java/lang/String.checkIndex(II)V -/
noncomputable def f_JS_checkIndex (a0 : Int32) (a1 : Int32) (σ : zS) : Option (Unit) :=
  (f_JP_checkIndex_4001 a0 a1 σ).bind fun r1 =>
  some ()
/-- java/lang/StringLatin1.charAt([BI)C -/
noncomputable def f_JL_charAt (a0 : Nat) (a1 : Int32) (σ : zS) : Option (Int32) :=
  if 3000 ≤ a0 ∧ a0 < 3013 then
  (f_JS_checkIndex a1 (Int32.ofNat (z_tl.getD (a0 - 3000) 0)) σ).bind fun r2 =>
  if (3000 ≤ a0 ∧ a0 < 3013) ∧ z_ib a1 (z_tl.getD (a0 - 3000) 0) = true then
  some (((((z_tb.getD (a0 - 3000) []).getD a1.toNatClampNeg 0) &&& (255 : Int32)).toUInt32 % 65536).toInt32)
  else none
  else none
/-- java/lang/String.charAt(I)C -/
noncomputable def f_JS_charAt (a0 : Nat) (a1 : Int32) (σ : zS) : Option (Int32) :=
  if 2000 ≤ a0 ∧ a0 < 2013 then
  ((f_JS_isLatin1 a0 σ).bind fun r1 =>
  if r1 = 0 then
    none
  else
    if 2000 ≤ a0 ∧ a0 < 2013 then
    (f_JL_charAt (a0 + 1000) a1 σ).bind fun r5 =>
    if narrow .char (.int r5) = .int r5 then
    some r5
    else none
    else none
  ) else none
/-- SeasonYard$Tokens.isName(Ljava/lang/String;)Z -/
noncomputable def f_Tk_isName_40 (a1 : Nat) (σ : zS) : Option (Int32) :=
  if (σ 40 1) = (1 : Int32) then
    if 2000 ≤ a1 ∧ a1 < 2013 then
    ((f_JS_length a1 σ).bind fun r2 =>
    if ((σ 40 4) - (σ 40 2)) = r2 then
      (z_loop (S := Int32) (β := (Unit) ⊕ (Int32)) (fun s5 =>
          if 2000 ≤ a1 ∧ a1 < 2013 then
          ((f_JS_length a1 σ).bind fun r6 =>
          if r6 ≤ s5 then
            some (.inr (.inl ()))
          else
            (f_Tp_at_35 ((σ 40 2) + s5) σ).bind fun r9 =>
            if 2000 ≤ a1 ∧ a1 < 2013 then
            ((f_JS_charAt a1 s5 σ).bind fun r10 =>
            if r9 = r10 then
              some (.inl (s5 + (1 : Int32)))
            else
              some (.inr (.inr (0 : Int32)))
            ) else none
          ) else none
        ) (0 : Int32)).bind (fun bb => match bb with
        | .inl b5 =>
          some (1 : Int32)
        | .inr g => some g)
    else
      some (0 : Int32)
    ) else none
  else
    some (0 : Int32)
/-- SeasonYard$TextReader.lineNamed()I -/
noncomputable def f_Tr_lineNamed_37  (σ : zS) : Option (Int32) :=
  (z_loop (S := Int32) (β := (Unit) ⊕ (Int32)) (fun s1 =>
      if (8 : Int32) ≤ s1 then
        some (.inr (.inl ()))
      else
        (f_Tr_lineName s1 σ).bind fun r3 =>
          if 2000 ≤ r3 ∧ r3 < 2013 then
          (f_Tk_isName_40 r3 σ).bind fun r5 =>
          if r5 = 0 then
            some (.inl (s1 + (1 : Int32)))
          else
            some (.inr (.inr s1))
          else none
    ) (0 : Int32)).bind (fun bb => match bb with
    | .inl b1 =>
      some (-4 : Int32)
    | .inr g => some g)
/-- SeasonYard$TextReader.isTold(II)Z -/
noncomputable def f_Tr_isTold_37 (a1 : Int32) (a2 : Int32) (σ : zS) : Option (Int32) :=
  (f_Y_isIn a1 (0 : Int32) (7 : Int32) σ).bind fun r1 =>
  if r1 = 0 then
    some (0 : Int32)
  else
    if z_ib a1 8 = true then
    if ((((σ 38 a1.toNatClampNeg).toUInt32 >>> (a2.toUInt32 &&& Int32.toUInt32 31)).toInt32) &&& (1 : Int32)) = 0 then
      some (0 : Int32)
    else
      some (1 : Int32)
    else none
/-- SeasonYard$TextReader.nameFault(I)I -/
noncomputable def f_Tr_nameFault_37 (a1 : Int32) (σ : zS) : Option (Int32) :=
  if (σ 40 1) = (4 : Int32) then
    some (1 : Int32)
  else
    (f_Y_isIn a1 (0 : Int32) (7 : Int32) σ).bind fun r2 =>
    if r2 = 0 then
      some (2 : Int32)
    else
      z_join (T := Unit) (fun t4 =>
          if a1 = (5 : Int32) then
            if (σ 23 3) < (5 : Int32) then
              some (0 : Int32)
            else
              some (5 : Int32)
          else
            some (0 : Int32)
        ) (fun j4 =>
          z_join (T := Unit) (fun t7 =>
              (f_Tr_isTold_37 a1 (0 : Int32) σ).bind fun r8 =>
              if r8 = 0 then
                j4 ()
              else
                some (4 : Int32)
            ) (fun j7 =>
              if a1 = 0 then
                j7 ()
              else
                if a1 = (7 : Int32) then
                  j7 ()
                else
                  j4 ()
            )
        )
/-- SeasonYard$TextReader.fieldFault(III)I -/
noncomputable def f_Tr_fieldFault_37 (a1 : Int32) (a2 : Int32) (a3 : Int32) (σ : zS) : Option (Int32) :=
  if (σ 40 1) = (4 : Int32) then
    some (1 : Int32)
  else
    if a3 = (-4 : Int32) then
      some (2 : Int32)
    else
      (f_Y_isIn (((3 : Int32) * a1) + a2) (0 : Int32) ((24 : Int32) - (1 : Int32)) σ).bind fun r3 =>
      if r3 = 0 then
        some (2 : Int32)
      else
        if (((3 : Int32) * a1) + a2) < (24 : Int32) then
          if z_ib (((3 : Int32) * a1) + a2) 24 = true then
          if z_ib (((3 : Int32) * a1) + a2) 24 = true then
          (f_Y_isIn a3 ((z_sv.getD 2 []).getD (((3 : Int32) * a1) + a2).toNatClampNeg 0) ((z_sv.getD 3 []).getD (((3 : Int32) * a1) + a2).toNatClampNeg 0) σ).bind fun r8 =>
          if r8 = 0 then
            some (3 : Int32)
          else
            z_join (T := Int32) (fun t10 =>
                z_join (T := Int32) (fun t11 =>
                    z_join (T := Unit) (fun t12 =>
                        some (4 : Int32)
                      ) (fun j12 =>
                        z_join (T := Unit) (fun t13 =>
                            if t11 = 0 then
                              some (0 : Int32)
                            else
                              j12 ()
                          ) (fun j13 =>
                            if t10 = 0 then
                              j13 ()
                            else
                              (f_Tr_isTold_37 a1 a3 σ).bind fun r16 =>
                              if r16 = 0 then
                                j13 ()
                              else
                                j12 ()
                          )
                      )
                  ) (fun j11 =>
                    z_join (T := Unit) (fun t18 =>
                        j11 (0 : Int32)
                      ) (fun j18 =>
                        if a1 = (5 : Int32) then
                          if a2 = (1 : Int32) then
                            if a3 = (σ 39 (0 : Int32).toNatClampNeg) then
                              j11 (1 : Int32)
                            else
                              j18 ()
                          else
                            j18 ()
                        else
                          j18 ()
                      )
                  )
              ) (fun j10 =>
                z_join (T := Unit) (fun t22 =>
                    j10 (0 : Int32)
                  ) (fun j22 =>
                    if a2 = 0 then
                      if a1 = 0 then
                        j22 ()
                      else
                        if a1 = (7 : Int32) then
                          j22 ()
                        else
                          if a1 = (5 : Int32) then
                            j22 ()
                          else
                            j10 (1 : Int32)
                    else
                      j22 ()
                  )
              )
          else none
          else none
        else
          some (2 : Int32)
/-- SeasonYard$TextReader.fail(II)V -/
noncomputable def f_Tr_fail_37 (a1 : Int32) (a2 : Int32) (σ : zS) : Option (zS) :=
  z_let (z_u σ 37 6 a1) fun τ1 =>
  z_let (z_u τ1 37 7 a2) fun τ2 =>
  some τ2
/-- SeasonYard$TextReader.cropName(I)Ljava/lang/String; -/
noncomputable def f_Tr_cropName (a0 : Int32) (σ : zS) : Option (Nat) :=
  if a0 = (0 : Int32) then
    some 2008
  else
  if a0 = (1 : Int32) then
    some 2009
  else
  if a0 = (2 : Int32) then
    some 2010
  else
  if a0 = (3 : Int32) then
    some 2011
  else
    some 2012
/-- SeasonYard$TextReader.cropNamed()I -/
noncomputable def f_Tr_cropNamed_37  (σ : zS) : Option (Int32) :=
  (z_loop (S := Int32) (β := (Unit) ⊕ (Int32)) (fun s1 =>
      if (5 : Int32) ≤ s1 then
        some (.inr (.inl ()))
      else
        (f_Tr_cropName s1 σ).bind fun r3 =>
          if 2000 ≤ r3 ∧ r3 < 2013 then
          (f_Tk_isName_40 r3 σ).bind fun r5 =>
          if r5 = 0 then
            some (.inl (s1 + (1 : Int32)))
          else
            some (.inr (.inr s1))
          else none
    ) (0 : Int32)).bind (fun bb => match bb with
    | .inl b1 =>
      some (-4 : Int32)
    | .inr g => some g)
/-- SeasonYard$TextReader.readField(II)V -/
noncomputable def f_Tr_readField_37 (a1 : Int32) (a2 : Int32) (σ : zS) : Option (zS) :=
  (f_Tk_move_40 σ).bind fun r1 =>
  z_join (T := Int32) (fun t2 =>
      (f_Tr_fieldFault_37 a1 a2 t2 r1).bind fun r3 =>
      if r3 = 0 then
        (f_Y_isIn a2 (0 : Int32) (2 : Int32) r1).bind fun r5 =>
        if r5 = 0 then
          some r1
        else
          if z_ib a2 3 = true then
          z_let (z_u r1 39 a2.toNatClampNeg t2) fun τ8 =>
          some τ8
          else none
      else
        (f_Tr_fail_37 r3 (r1 40 2) r1).bind fun r9 =>
        some r9
    ) (fun j2 =>
      z_join (T := Unit) (fun t10 =>
          if (r1 40 1) = (2 : Int32) then
            j2 (r1 40 3)
          else
            j2 (-4 : Int32)
        ) (fun j10 =>
          if a1 = (2 : Int32) then
            if a2 = (1 : Int32) then
              (f_Tr_cropNamed_37 r1).bind fun r14 =>
              j2 r14
            else
              j10 ()
          else
            j10 ()
        )
    )
/-- SeasonYard$Garden.set(III)V -/
noncomputable def f_G_set_17 (a1 : Int32) (a2 : Int32) (a3 : Int32) (σ : zS) : Option (zS) :=
  (f_Y_isIn a1 (0 : Int32) (15 : Int32) σ).bind fun r1 =>
  if r1 = 0 then
    some σ
  else
    if z_ib a1 16 = true then
    z_let (z_u σ 18 a1.toNatClampNeg a2) fun τ4 =>
    if z_ib a1 16 = true then
    z_let (z_u τ4 19 a1.toNatClampNeg a3) fun τ6 =>
    some τ6
    else none
    else none
/-- SeasonYard$Garden.setCrop(II)V -/
noncomputable def f_G_setCrop_17 (a1 : Int32) (a2 : Int32) (σ : zS) : Option (zS) :=
  (f_Y_isIn a1 (0 : Int32) (15 : Int32) σ).bind fun r1 =>
  if r1 = 0 then
    some σ
  else
    if z_ib a1 16 = true then
    z_let (z_u σ 20 a1.toNatClampNeg a2) fun τ4 =>
    if z_ib a1 16 = true then
    z_let (z_u τ4 21 a1.toNatClampNeg (0 : Int32)) fun τ6 =>
    some τ6
    else none
    else none
/-- SeasonYard$Garden.setOwner(II)V -/
noncomputable def f_G_setOwner_17 (a1 : Int32) (a2 : Int32) (σ : zS) : Option (zS) :=
  (f_Y_isIn a1 (0 : Int32) (15 : Int32) σ).bind fun r1 =>
  if r1 = 0 then
    some σ
  else
    if z_ib a1 16 = true then
    z_let (z_u σ 22 a1.toNatClampNeg a2) fun τ4 =>
    some τ4
    else none
/-- SeasonYard$Garden.setWall(IZ)V -/
noncomputable def f_G_setWall_17 (a1 : Int32) (a2 : Int32) (σ : zS) : Option (zS) :=
  z_join (T := Int32) (fun t1 =>
      z_let (z_u σ 17 7 t1) fun τ2 =>
      some τ2
    ) (fun j1 =>
      if a2 = 0 then
        j1 ((σ 17 7) &&& (((1 : Int32) <<< (a1 &&& 31)) ^^^ (-1 : Int32)))
      else
        j1 ((σ 17 7) ||| ((1 : Int32) <<< (a1 &&& 31)))
    )
/-- SeasonYard$Laws.add(III)V -/
noncomputable def f_Lw_add_23 (a1 : Int32) (a2 : Int32) (a3 : Int32) (σ : zS) : Option (zS) :=
  if (5 : Int32) ≤ (σ 23 3) then
    some σ
  else
    if z_ib (σ 23 3) 5 = true then
    z_let (z_u σ 24 (σ 23 3).toNatClampNeg a1) fun τ3 =>
    if z_ib (τ3 23 3) 5 = true then
    z_let (z_u τ3 25 (τ3 23 3).toNatClampNeg a2) fun τ5 =>
    if z_ib (τ5 23 3) 5 = true then
    z_let (z_u τ5 26 (τ5 23 3).toNatClampNeg a3) fun τ7 =>
    z_let (z_u τ7 23 3 ((τ7 23 3) + (1 : Int32))) fun τ8 =>
    some τ8
    else none
    else none
    else none
/-- SeasonYard.isSeason(I)Z -/
noncomputable def f_Y_isSeason (a0 : Int32) (σ : zS) : Option (Int32) :=
  (f_Y_isIn a0 (0 : Int32) (3 : Int32) σ).bind fun r1 =>
  if r1 = 0 ∨ r1 = 1 then
  some r1
  else none
/-- SeasonYard$Shop.offer(III)V -/
noncomputable def f_Sp_offer_27 (a1 : Int32) (a2 : Int32) (a3 : Int32) (σ : zS) : Option (zS) :=
  (f_Y_isSeason a1 σ).bind fun r1 =>
  if r1 = 0 then
    some σ
  else
    if z_ib a1 4 = true then
    z_let (z_u σ 28 a1.toNatClampNeg a2) fun τ4 =>
    if z_ib a1 4 = true then
    z_let (z_u τ4 29 a1.toNatClampNeg a3) fun τ6 =>
    some τ6
    else none
    else none
/-- SeasonYard$TextReader.take(I)V -/
noncomputable def f_Tr_take_37 (a1 : Int32) (σ : zS) : Option (zS) :=
  z_join (T := Int32) (fun t1 =>
      (f_Y_isIn a1 (0 : Int32) (7 : Int32) σ).bind fun r2 =>
      z_join (T := zS) (fun t3 =>
          if a1 = (0 : Int32) then
            z_let (z_u t3 17 0 (t3 39 (0 : Int32).toNatClampNeg)) fun τ5 =>
            z_let (z_u τ5 17 1 (τ5 39 (1 : Int32).toNatClampNeg)) fun τ6 =>
            some τ6
          else
          if a1 = (1 : Int32) then
            (f_G_set_17 t1 (t3 39 (1 : Int32).toNatClampNeg) (t3 39 (2 : Int32).toNatClampNeg) t3).bind fun r8 =>
            some r8
          else
          if a1 = (2 : Int32) then
            (f_G_setCrop_17 t1 (t3 39 (1 : Int32).toNatClampNeg) t3).bind fun r10 =>
            some r10
          else
          if a1 = (3 : Int32) then
            (f_G_setOwner_17 t1 (t3 39 (1 : Int32).toNatClampNeg) t3).bind fun r12 =>
            some r12
          else
          if a1 = (4 : Int32) then
            (f_G_setWall_17 t1 (1 : Int32) t3).bind fun r14 =>
            some r14
          else
          if a1 = (5 : Int32) then
            (f_Lw_add_23 (t3 39 (0 : Int32).toNatClampNeg) (t3 39 (1 : Int32).toNatClampNeg) (t3 39 (2 : Int32).toNatClampNeg) t3).bind fun r16 =>
            some r16
          else
          if a1 = (6 : Int32) then
            (f_Sp_offer_27 t1 (t3 39 (1 : Int32).toNatClampNeg) (t3 39 (2 : Int32).toNatClampNeg) t3).bind fun r18 =>
            some r18
          else
            z_let (z_u t3 27 2 (t3 39 (0 : Int32).toNatClampNeg)) fun τ19 =>
            some τ19
        ) (fun j3 =>
          if r2 = 0 then
            j3 σ
          else
            if z_ib a1 8 = true then
            if z_ib a1 8 = true then
            z_let (z_u σ 38 a1.toNatClampNeg ((σ 38 a1.toNatClampNeg) ||| ((1 : Int32) <<< (t1 &&& 31)))) fun τ23 =>
            j3 τ23
            else none
            else none
        )
    ) (fun j1 =>
      z_join (T := Unit) (fun t24 =>
          j1 (0 : Int32)
        ) (fun j24 =>
          if a1 = 0 then
            j24 ()
          else
            if a1 = (7 : Int32) then
              j24 ()
            else
              if a1 = (5 : Int32) then
                j24 ()
              else
                j1 (σ 39 (0 : Int32).toNatClampNeg)
        )
    )
/-- SeasonYard$TextReader.readSemicolon()V -/
noncomputable def f_Tr_readSemicolon_37  (σ : zS) : Option (zS) :=
  (f_Tk_move_40 σ).bind fun r1 =>
  if (r1 40 1) = (4 : Int32) then
    (f_Tr_fail_37 (1 : Int32) (r1 40 2) r1).bind fun r3 =>
    some r3
  else
    if (r1 40 1) = (3 : Int32) then
      some r1
    else
      (f_Tr_fail_37 (2 : Int32) (r1 40 2) r1).bind fun r5 =>
      some r5
/-- SeasonYard$TextReader.readLine()Z -/
noncomputable def f_Tr_readLine_37  (σ : zS) : Option (Int32 × zS) :=
  (f_Tk_move_40 σ).bind fun r1 =>
  if (r1 40 1) = 0 then
    some ((0 : Int32), r1)
  else
    (f_Tr_lineNamed_37 r1).bind fun r3 =>
    (f_Tr_nameFault_37 r3 r1).bind fun r4 =>
    if r4 = 0 then
      (z_loop (S := Int32 × zS) (β := zS) (fun s6 =>
          if z_ib r3 8 = true then
          if ((z_sv.getD 1 []).getD r3.toNatClampNeg 0) ≤ s6.1 then
            some (.inr s6.2)
          else
            if (s6.2 37 6) = 0 then
              (f_Tr_readField_37 r3 s6.1 s6.2).bind fun r10 =>
              some (.inl ((s6.1 + (1 : Int32)), r10))
            else
              some (.inr s6.2)
          else none
        ) ((0 : Int32), r1)).bind (fun b6 =>
          z_join (T := zS) (fun t11 =>
              z_join (T := zS) (fun t12 =>
                  if (t12 37 6) = 0 then
                    some ((1 : Int32), t12)
                  else
                    some ((0 : Int32), t12)
                ) (fun j12 =>
                  if (t11 37 6) = 0 then
                    (f_Tr_take_37 r3 t11).bind fun r15 =>
                    z_let (z_u r15 37 5 ((r15 37 5) + (1 : Int32))) fun τ16 =>
                    j12 τ16
                  else
                    j12 t11
                )
            ) (fun j11 =>
              if (b6 37 6) = 0 then
                (f_Tr_readSemicolon_37 b6).bind fun r18 =>
                j11 r18
              else
                j11 b6
            )
        )
    else
      (f_Tr_fail_37 r4 (r1 40 2) r1).bind fun r19 =>
      some ((0 : Int32), r19)
/-- SeasonYard$Garden.cells()I -/
noncomputable def f_G_cells_17  (σ : zS) : Option (Int32) :=
  if (16 : Int32) ≤ ((σ 17 0) * (σ 17 1)) then
    some (16 : Int32)
  else
    some ((σ 17 0) * (σ 17 1))
/-- SeasonYard$Garden.hasCell(I)Z -/
noncomputable def f_G_hasCell_17 (a1 : Int32) (σ : zS) : Option (Int32) :=
  if a1 < 0 then
    some (0 : Int32)
  else
    (f_G_cells_17 σ).bind fun r2 =>
    if r2 ≤ a1 then
      some (0 : Int32)
    else
      some (1 : Int32)
/-- SeasonYard$Garden.hasEast(I)Z -/
noncomputable def f_G_hasEast_17 (a1 : Int32) (σ : zS) : Option (Int32) :=
  if (σ 17 0) ≤ 0 then
    some (0 : Int32)
  else
    if (σ 17 0) = 0 then none else
    if ((σ 17 0) - (1 : Int32)) ≤ (a1 - a1 / (σ 17 0) * (σ 17 0)) then
      some (0 : Int32)
    else
      some (1 : Int32)
/-- SeasonYard$Garden.hasEdge(I)Z -/
noncomputable def f_G_hasEdge_17 (a1 : Int32) (σ : zS) : Option (Int32) :=
  (f_G_hasCell_17 (a1 >>> ((1 : Int32) &&& 31)) σ).bind fun r1 =>
  if r1 = 0 then
    some (0 : Int32)
  else
    if (a1 &&& (1 : Int32)) = 0 then
      (f_G_hasEast_17 (a1 >>> ((1 : Int32) &&& 31)) σ).bind fun r4 =>
      if r4 = 0 ∨ r4 = 1 then
      some r4
      else none
    else
      (f_G_hasCell_17 ((a1 >>> ((1 : Int32) &&& 31)) + (σ 17 0)) σ).bind fun r6 =>
      if r6 = 0 ∨ r6 = 1 then
      some r6
      else none
/-- SeasonYard$TextReader.checkAll()V -/
noncomputable def f_Tr_checkAll_37  (σ : zS) : Option (zS) :=
  (f_G_cells_17 σ).bind fun r1 =>
  if (((((σ 38 (1 : Int32).toNatClampNeg) ||| (σ 38 (2 : Int32).toNatClampNeg)) ||| (σ 38 (3 : Int32).toNatClampNeg)).toUInt32 >>> (r1.toUInt32 &&& Int32.toUInt32 31)).toInt32) = 0 then
    (z_loop (S := Int32 × zS) (β := zS) (fun s3 =>
        if (32 : Int32) ≤ s3.1 then
          some (.inr s3.2)
        else
          (f_Tr_isTold_37 (4 : Int32) s3.1 s3.2).bind fun r5 =>
          z_join (T := zS) (fun t6 =>
              some (.inl ((s3.1 + (1 : Int32)), t6))
            ) (fun j6 =>
              if r5 = 0 then
                j6 s3.2
              else
                (f_G_hasEdge_17 s3.1 s3.2).bind fun r8 =>
                if r8 = 0 then
                  (f_Tr_fail_37 (7 : Int32) (s3.2 35 1) s3.2).bind fun r10 =>
                  j6 r10
                else
                  j6 s3.2
            )
      ) ((0 : Int32), σ)).bind (fun b3 =>
        some b3
      )
  else
    (f_Tr_fail_37 (6 : Int32) (σ 35 1) σ).bind fun r11 =>
    some r11
/-- SeasonYard$TextReader.readAll()Z -/
noncomputable def f_Tr_readAll_37  (σ : zS) : Option (Int32 × zS) :=
  (f_G_clear_17 σ).bind fun r1 =>
  (f_Tk_begin_40 r1).bind fun r2 =>
  (f_JA_fill_38 (0 : Int32) r2).bind fun r3 =>
  z_let (z_u r3 37 5 (0 : Int32)) fun τ4 =>
  z_let (z_u τ4 37 6 (0 : Int32)) fun τ5 =>
  z_let (z_u τ5 37 7 (0 : Int32)) fun τ6 =>
  (z_loop (S := Int32 × Int32 × zS) (β := zS) (fun s7 =>
      if (160 : Int32) < s7.2.1 then
        some (.inr s7.2.2)
      else
        if s7.1 = 0 then
          some (.inr s7.2.2)
        else
          (f_Tr_readLine_37 s7.2.2).bind fun r10 =>
          some (.inl (r10.1, (s7.2.1 + (1 : Int32)), r10.2))
    ) ((1 : Int32), (0 : Int32), τ6)).bind (fun b7 =>
      z_join (T := zS) (fun t11 =>
          if (t11 37 6) = 0 then
            some ((1 : Int32), t11)
          else
            some ((0 : Int32), t11)
        ) (fun j11 =>
          if (b7 37 6) = 0 then
            (f_Tr_checkAll_37 b7).bind fun r14 =>
            j11 r14
          else
            j11 b7
        )
    )
/-- SeasonYard$Laws.copyFrom(LSeasonYard$Laws;)V -/
noncomputable def f_Lw_copyFrom_7_23  (σ : zS) : Option (zS) :=
  z_let (z_cp σ 24 8 0 0 5) fun τ1 =>
  z_let (z_cp τ1 25 9 0 0 5) fun τ2 =>
  z_let (z_cp τ2 26 10 0 0 5) fun τ3 =>
  z_let (z_u τ3 7 3 (τ3 23 3)) fun τ4 =>
  some τ4
/-- SeasonYard$Shop.copyFrom(LSeasonYard$Shop;)V -/
noncomputable def f_Sp_copyFrom_11_27  (σ : zS) : Option (zS) :=
  z_let (z_cp σ 28 12 0 0 4) fun τ1 =>
  z_let (z_cp τ1 29 13 0 0 4) fun τ2 =>
  z_let (z_u τ2 11 2 (τ2 27 2)) fun τ3 =>
  some τ3
/-- SeasonYard$Garden.copyFrom(LSeasonYard$Garden;)V -/
noncomputable def f_G_copyFrom_1_17  (σ : zS) : Option (zS) :=
  z_let (z_u σ 1 0 (σ 17 0)) fun τ1 =>
  z_let (z_u τ1 1 1 (τ1 17 1)) fun τ2 =>
  z_let (z_cp τ2 18 2 0 0 16) fun τ3 =>
  z_let (z_cp τ3 19 3 0 0 16) fun τ4 =>
  z_let (z_cp τ4 20 4 0 0 16) fun τ5 =>
  z_let (z_cp τ5 21 5 0 0 16) fun τ6 =>
  z_let (z_cp τ6 22 6 0 0 16) fun τ7 =>
  z_let (z_u τ7 1 7 (τ7 17 7)) fun τ8 =>
  (f_Lw_copyFrom_7_23 τ8).bind fun r9 =>
  (f_Sp_copyFrom_11_27 r9).bind fun r10 =>
  z_let (z_u r10 1 10 (r10 17 10)) fun τ11 =>
  z_let (z_cp τ11 30 14 0 0 3) fun τ12 =>
  z_let (z_u τ12 1 12 (τ12 17 12)) fun τ13 =>
  z_let (z_u τ13 1 13 (τ13 17 13)) fun τ14 =>
  some τ14
/-- SeasonYard.text()I -/
noncomputable def f_Y_text  (σ : zS) : Option (Int32 × zS) :=
  (f_Tr_readAll_37 σ).bind fun r1 =>
  z_let (z_u r1.2 0 9 (r1.2 37 6)) fun τ2 =>
  z_let (z_u τ2 35 1 (0 : Int32)) fun τ3 =>
  if r1.1 = 0 then
    some (((-10 : Int32) - (τ3 37 7)), τ3)
  else
    (f_G_copyFrom_1_17 τ3).bind fun r5 =>
    z_let (z_u r5 44 2 (0 : Int32)) fun τ6 =>
    z_let (z_u τ6 0 8 (0 : Int32)) fun τ7 =>
    some ((τ7 37 5), τ7)
/-- SeasonYardModel.byteAt(I)I -/
noncomputable def f_M_byteAt (a1 : Int32) (σ : zS) : Option (Int32) :=
  if (σ 90 13) ≤ a1 then
    some (-4 : Int32)
  else
    if z_ib a1 160 = true then
    some (σ 95 a1.toNatClampNeg)
    else none
/-- SeasonYardModel.fails(I)V -/
noncomputable def f_M_fails (a1 : Int32) (σ : zS) : Option (zS) :=
  if (σ 90 15) = 0 then
    z_let (z_u σ 90 15 a1) fun τ2 =>
    z_let (z_u τ2 90 16 (τ2 90 18)) fun τ3 =>
    some τ3
  else
    some σ
/-- SeasonYardModel.step()V -/
noncomputable def f_M_step  (σ : zS) : Option (zS) :=
  if (σ 90 15) ≤ 0 then
    (z_loop (S := zS) (β := zS) (fun s2 =>
        (f_M_byteAt (s2 90 17) s2).bind fun r3 =>
        if r3 = (32 : Int32) then
          z_let (z_u s2 90 17 ((s2 90 17) + (1 : Int32))) fun τ5 =>
          some (.inl τ5)
        else
          some (.inr s2)
      ) σ).bind (fun b2 =>
        z_let (z_u b2 90 18 (b2 90 17)) fun τ6 =>
        (f_M_byteAt (τ6 90 17) τ6).bind fun r7 =>
        z_let (z_u τ6 90 20 (0 : Int32)) fun τ8 =>
        if r7 = (-4 : Int32) then
          z_let (z_u τ8 90 19 (0 : Int32)) fun τ10 =>
          some τ10
        else
          (f_M_in (r7.toInt64) (97 : Int64) (122 : Int64) τ8).bind fun r11 =>
          if r11 = 0 then
            (f_M_in (r7.toInt64) (48 : Int64) (57 : Int64) τ8).bind fun r13 =>
            if r13 = 0 then
              z_let (z_u τ8 90 19 (3 : Int32)) fun τ15 =>
              z_let (z_u τ15 90 17 ((τ15 90 17) + (1 : Int32))) fun τ16 =>
              if r7 = (59 : Int32) then
                some τ16
              else
                (f_M_fails (1 : Int32) τ16).bind fun r18 =>
                some r18
            else
              (z_loop (S := zS) (β := zS) (fun s19 =>
                  (f_M_byteAt (s19 90 17) s19).bind fun r20 =>
                  (f_M_in (r20.toInt64) (48 : Int64) (57 : Int64) s19).bind fun r21 =>
                  if r21 = 0 then
                    some (.inr s19)
                  else
                    z_join (T := Int32) (fun t23 =>
                        z_let (z_u s19 90 20 t23) fun τ24 =>
                        z_let (z_u τ24 90 17 ((τ24 90 17) + (1 : Int32))) fun τ25 =>
                        some (.inl τ25)
                      ) (fun j23 =>
                        if (2 : Int32) ≤ ((s19 90 17) - (s19 90 18)) then
                          j23 (s19 90 20)
                        else
                          (f_M_byteAt (s19 90 17) s19).bind fun r27 =>
                          j23 ((((10 : Int32) * (s19 90 20)) + r27) - (48 : Int32))
                      )
                ) τ8).bind (fun b19 =>
                  z_let (z_u b19 90 19 (2 : Int32)) fun τ28 =>
                  if ((τ28 90 17) - (τ28 90 18)) ≤ (2 : Int32) then
                    some τ28
                  else
                    (f_M_fails (1 : Int32) τ28).bind fun r30 =>
                    some r30
                )
          else
            (z_loop (S := zS) (β := zS) (fun s31 =>
                (f_M_byteAt (s31 90 17) s31).bind fun r32 =>
                (f_M_in (r32.toInt64) (97 : Int64) (122 : Int64) s31).bind fun r33 =>
                if r33 = 0 then
                  some (.inr s31)
                else
                  z_let (z_u s31 90 17 ((s31 90 17) + (1 : Int32))) fun τ35 =>
                  some (.inl τ35)
              ) τ8).bind (fun b31 =>
                z_let (z_u b31 90 19 (1 : Int32)) fun τ36 =>
                some τ36
              )
      )
  else
    some σ
/-- SeasonYardModel.nameHere()I -/
noncomputable def f_M_nameHere  (σ : zS) : Option (Int32) :=
  (z_loop (S := Int32) (β := (Unit) ⊕ (Int32)) (fun s1 =>
      if (13 : Int32) ≤ s1 then
        some (.inr (.inl ()))
      else
        if (σ 90 19) = (1 : Int32) then
          if z_ib (s1 + (1 : Int32)) 14 = true then
          if z_ib s1 14 = true then
          z_join (T := Int32) (fun t6 =>
              (z_loop (S := Int32 × Int32) (β := Int32) (fun s7 =>
                  if s7.1 = 0 then
                    some (.inr s7.1)
                  else
                    if ((σ 90 17) - (σ 90 18)) ≤ s7.2 then
                      some (.inr s7.1)
                    else
                      (f_M_byteAt ((σ 90 18) + s7.2) σ).bind fun r10 =>
                      if z_ib s1 14 = true then
                      if z_ib ((σ 96 s1.toNatClampNeg) + s7.2) 51 = true then
                      z_join (T := Int32) (fun t13 =>
                          some (.inl (t13, (s7.2 + (1 : Int32))))
                        ) (fun j13 =>
                          if r10 = (σ 97 ((σ 96 s1.toNatClampNeg) + s7.2).toNatClampNeg) then
                            j13 (1 : Int32)
                          else
                            j13 (0 : Int32)
                        )
                      else none
                      else none
                ) (t6, (0 : Int32))).bind (fun b7 =>
                  if b7 = 0 then
                    some (.inl (s1 + (1 : Int32)))
                  else
                    some (.inr (.inr s1))
                )
            ) (fun j6 =>
              if ((σ 90 17) - (σ 90 18)) = ((σ 96 (s1 + (1 : Int32)).toNatClampNeg) - (σ 96 s1.toNatClampNeg)) then
                j6 (1 : Int32)
              else
                j6 (0 : Int32)
            )
          else none
          else none
        else
          some (.inr (.inl ()))
    ) (0 : Int32)).bind (fun bb => match bb with
    | .inl b1 =>
      some (-4 : Int32)
    | .inr g => some g)
/-- SeasonYardModel.other(III)I -/
noncomputable def f_M_other (a1 : Int32) (a2 : Int32) (a3 : Int32) (σ : zS) : Option (Int32 × zS) :=
  z_join (T := zS) (fun t1 =>
      z_join (T := zS) (fun t2 =>
          z_join (T := zS) (fun t3 =>
              z_join (T := Int32) (fun t4 =>
                  (f_M_step t3).bind fun r5 =>
                  some (t4, r5)
                ) (fun j4 =>
                  if (t3 90 15) = 0 then
                    j4 (t3 90 20)
                  else
                    j4 a1
                )
            ) (fun j3 =>
              if (t2 90 15) = 0 then
                if (32 : Int32) ≤ (t2 90 20) then
                  j3 t2
                else
                  if ((a3 >>> ((t2 90 20) &&& 31)) &&& (1 : Int32)) = (1 : Int32) then
                    (f_M_fails (4 : Int32) t2).bind fun r10 =>
                    j3 r10
                  else
                    j3 t2
              else
                j3 t2
            )
        ) (fun j2 =>
          if (t1 90 15) = 0 then
            (f_M_in ((t1 90 20).toInt64) (a1.toInt64) (a2.toInt64) t1).bind fun r12 =>
            if r12 = 0 then
              (f_M_fails (3 : Int32) t1).bind fun r14 =>
              j2 r14
            else
              j2 t1
          else
            j2 t1
        )
    ) (fun j1 =>
      if (σ 90 15) = 0 then
        if (σ 90 19) = (2 : Int32) then
          j1 σ
        else
          (f_M_fails (2 : Int32) σ).bind fun r17 =>
          j1 r17
      else
        j1 σ
    )
/-- SeasonYardModel.fresh(II)I -/
noncomputable def f_M_fresh (a1 : Int32) (a2 : Int32) (σ : zS) : Option (Int32 × zS) :=
  if z_ib a1 8 = true then
  (f_M_other (0 : Int32) a2 (σ 94 a1.toNatClampNeg) σ).bind fun r2 =>
  if z_ib a1 8 = true then
  if z_ib a1 8 = true then
  z_let (z_u r2.2 94 a1.toNatClampNeg ((r2.2 94 a1.toNatClampNeg) ||| ((1 : Int32) <<< (r2.1 &&& 31)))) fun τ5 =>
  z_join (T := Int32) (fun t6 =>
      z_let (z_u τ5 90 11 t6) fun τ7 =>
      some (r2.1, τ7)
    ) (fun j6 =>
      z_join (T := Unit) (fun t8 =>
          j6 (τ5 90 11)
        ) (fun j8 =>
          if (4 : Int32) ≤ a1 then
            j8 ()
          else
            if r2.1 ≤ (τ5 90 11) then
              j8 ()
            else
              j6 r2.1
        )
    )
  else none
  else none
  else none
/-- SeasonYardModel.readMore(I)V -/
noncomputable def f_M_readMore (a1 : Int32) (σ : zS) : Option (zS) :=
  if a1 = (4 : Int32) then
    (f_M_fresh a1 (31 : Int32) σ).bind fun r2 =>
    z_let (z_u r2.2 93 (80 : Int32).toNatClampNeg ((r2.2 93 (80 : Int32).toNatClampNeg) ||| ((1 : Int32) <<< (r2.1 &&& 31)))) fun τ3 =>
    some τ3
  else
    if a1 = (5 : Int32) then
      z_let ((81 : Int32) + ((3 : Int32) * (σ 90 8))) fun v5 =>
      (f_M_other (0 : Int32) (3 : Int32) (0 : Int32) σ).bind fun r6 =>
      if z_ib v5 110 = true then
      z_let (z_u r6.2 93 v5.toNatClampNeg r6.1) fun τ8 =>
      if z_ib v5 110 = true then
      (f_M_other (0 : Int32) (4 : Int32) ((1 : Int32) <<< ((τ8 93 v5.toNatClampNeg) &&& 31)) τ8).bind fun r10 =>
      if z_ib (v5 + (1 : Int32)) 110 = true then
      z_let (z_u r10.2 93 (v5 + (1 : Int32)).toNatClampNeg r10.1) fun τ12 =>
      (f_M_other (1 : Int32) (4 : Int32) (0 : Int32) τ12).bind fun r13 =>
      if z_ib (v5 + (2 : Int32)) 110 = true then
      z_let (z_u r13.2 93 (v5 + (2 : Int32)).toNatClampNeg r13.1) fun τ15 =>
      z_let (z_u τ15 90 8 ((τ15 90 8) + (1 : Int32))) fun τ16 =>
      some τ16
      else none
      else none
      else none
      else none
    else
      if a1 = (6 : Int32) then
        (f_M_fresh a1 (3 : Int32) σ).bind fun r18 =>
        z_let ((96 : Int32) + ((2 : Int32) * r18.1)) fun v19 =>
        (f_M_other (0 : Int32) (99 : Int32) (0 : Int32) r18.2).bind fun r20 =>
        if z_ib v19 110 = true then
        z_let (z_u r20.2 93 v19.toNatClampNeg r20.1) fun τ22 =>
        (f_M_other (1 : Int32) (9 : Int32) (0 : Int32) τ22).bind fun r23 =>
        if z_ib (v19 + (1 : Int32)) 110 = true then
        z_let (z_u r23.2 93 (v19 + (1 : Int32)).toNatClampNeg (r23.1 - (1 : Int32))) fun τ25 =>
        some τ25
        else none
        else none
      else
        if a1 = (7 : Int32) then
          (f_M_other (0 : Int32) (99 : Int32) (0 : Int32) σ).bind fun r27 =>
          z_let (z_u r27.2 93 (104 : Int32).toNatClampNeg r27.1) fun τ28 =>
          some τ28
        else
          (f_M_other (2 : Int32) (4 : Int32) (0 : Int32) σ).bind fun r29 =>
          z_let (z_u r29.2 90 6 r29.1) fun τ30 =>
          (f_M_other (2 : Int32) (4 : Int32) (0 : Int32) τ30).bind fun r31 =>
          z_let (z_u r31.2 90 7 r31.1) fun τ32 =>
          some τ32
/-- SeasonYardModel.readCell(I)V -/
noncomputable def f_M_readCell (a1 : Int32) (σ : zS) : Option (zS) :=
  (f_M_fresh a1 (15 : Int32) σ).bind fun r1 =>
  if a1 = (1 : Int32) then
    (f_M_other (0 : Int32) (3 : Int32) (0 : Int32) r1.2).bind fun r3 =>
    if z_ib ((5 : Int32) * r1.1) 110 = true then
    z_let (z_u r3.2 93 ((5 : Int32) * r1.1).toNatClampNeg r3.1) fun τ5 =>
    (f_M_other (1 : Int32) (9 : Int32) (0 : Int32) τ5).bind fun r6 =>
    if z_ib (((5 : Int32) * r1.1) + (1 : Int32)) 110 = true then
    z_let (z_u r6.2 93 (((5 : Int32) * r1.1) + (1 : Int32)).toNatClampNeg r6.1) fun τ8 =>
    some τ8
    else none
    else none
  else
    if a1 = (3 : Int32) then
      (f_M_other (0 : Int32) (2 : Int32) (0 : Int32) r1.2).bind fun r10 =>
      if z_ib (((5 : Int32) * r1.1) + (4 : Int32)) 110 = true then
      z_let (z_u r10.2 93 (((5 : Int32) * r1.1) + (4 : Int32)).toNatClampNeg r10.1) fun τ12 =>
      some τ12
      else none
    else
      (f_M_nameHere r1.2).bind fun r13 =>
      z_join (T := zS) (fun t14 =>
          if z_ib (((5 : Int32) * r1.1) + (2 : Int32)) 110 = true then
          z_let (z_u t14 93 (((5 : Int32) * r1.1) + (2 : Int32)).toNatClampNeg ((r13 - (8 : Int32)) + (1 : Int32))) fun τ16 =>
          (f_M_step τ16).bind fun r17 =>
          some r17
          else none
        ) (fun j14 =>
          if (r1.2 90 15) = 0 then
            if 0 ≤ (r13 - (8 : Int32)) then
              j14 r1.2
            else
              (f_M_fails (2 : Int32) r1.2).bind fun r20 =>
              j14 r20
          else
            j14 r1.2
        )
/-- SeasonYardModel.readLine()V -/
noncomputable def f_M_readLine  (σ : zS) : Option (zS) :=
  (f_M_nameHere σ).bind fun r1 =>
  (f_M_in (r1.toInt64) (0 : Int64) (7 : Int64) σ).bind fun r2 =>
  if r2 = 0 then
    (f_M_fails (2 : Int32) σ).bind fun r4 =>
    some r4
  else
    z_join (T := zS) (fun t5 =>
        z_join (T := zS) (fun t6 =>
            z_let (z_u t6 90 9 ((t6 90 9) ||| ((1 : Int32) <<< (r1 &&& 31)))) fun τ7 =>
            (f_M_step τ7).bind fun r8 =>
            if (r8 90 15) ≤ 0 then
              (f_M_in (r1.toInt64) (1 : Int64) (3 : Int64) r8).bind fun r10 =>
              z_join (T := zS) (fun t11 =>
                  z_join (T := zS) (fun t12 =>
                      (f_M_step t12).bind fun r13 =>
                      some r13
                    ) (fun j12 =>
                      if (t11 90 15) = 0 then
                        if (t11 90 19) = (3 : Int32) then
                          j12 t11
                        else
                          (f_M_fails (2 : Int32) t11).bind fun r16 =>
                          j12 r16
                      else
                        j12 t11
                    )
                ) (fun j11 =>
                  if r10 = 0 then
                    (f_M_readMore r1 r8).bind fun r18 =>
                    j11 r18
                  else
                    (f_M_readCell r1 r8).bind fun r19 =>
                    j11 r19
                )
            else
              some r8
          ) (fun j6 =>
            z_join (T := Unit) (fun t20 =>
                if (((t5 90 9) >>> (r1 &&& 31)) &&& (1 : Int32)) = (1 : Int32) then
                  (f_M_fails (4 : Int32) t5).bind fun r22 =>
                  j6 r22
                else
                  j6 t5
              ) (fun j20 =>
                if r1 = 0 then
                  j20 ()
                else
                  if r1 = (7 : Int32) then
                    j20 ()
                  else
                    j6 t5
              )
          )
      ) (fun j5 =>
        if r1 = (5 : Int32) then
          if (σ 90 8) = (5 : Int32) then
            (f_M_fails (5 : Int32) σ).bind fun r27 =>
            j5 r27
          else
            j5 σ
        else
          j5 σ
      )
/-- SeasonYardModel.isEdgeOf(III)Z -/
noncomputable def f_M_isEdgeOf (a0 : Int32) (a1 : Int32) (a2 : Int32) (σ : zS) : Option (Int32) :=
  if a0 < 0 then
    some (0 : Int32)
  else
    if (a1 * a2) ≤ (a0 / (2 : Int32)) then
      some (0 : Int32)
    else
      z_join (T := Unit) (fun t3 =>
          some (1 : Int32)
        ) (fun j3 =>
          if (a0 - a0 / (2 : Int32) * (2 : Int32)) = 0 then
            if a1 = 0 then none else
            if a1 ≤ (((a0 / (2 : Int32)) - (a0 / (2 : Int32)) / a1 * a1) + (1 : Int32)) then
              some (0 : Int32)
            else
              j3 ()
          else
            if a1 = 0 then none else
            if a2 ≤ (((a0 / (2 : Int32)) / a1) + (1 : Int32)) then
              some (0 : Int32)
            else
              j3 ()
        )
/-- SeasonYardModel.text()I -/
noncomputable def f_M_text  (σ : zS) : Option (Int32 × zS) :=
  z_let (z_u σ 90 15 (0 : Int32)) fun τ1 =>
  z_let (z_u τ1 90 17 (0 : Int32)) fun τ2 =>
  z_let (z_u τ2 90 6 (2 : Int32)) fun τ3 =>
  z_let (z_u τ3 90 7 (2 : Int32)) fun τ4 =>
  z_let (z_u τ4 90 8 (0 : Int32)) fun τ5 =>
  z_let (z_u τ5 90 9 (0 : Int32)) fun τ6 =>
  z_let (z_u τ6 90 11 (-1 : Int32)) fun τ7 =>
  (z_loop (S := Int32 × zS) (β := zS) (fun s8 =>
      if (110 : Int32) ≤ s8.1 then
        some (.inr s8.2)
      else
        if z_ib s8.1 110 = true then
        z_let (z_u s8.2 93 s8.1.toNatClampNeg (0 : Int32)) fun τ11 =>
        if z_ib (s8.1 - s8.1 / (8 : Int32) * (8 : Int32)) 8 = true then
        z_let (z_u τ11 94 (s8.1 - s8.1 / (8 : Int32) * (8 : Int32)).toNatClampNeg (0 : Int32)) fun τ13 =>
        some (.inl ((s8.1 + (1 : Int32)), τ13))
        else none
        else none
    ) ((0 : Int32), τ7)).bind (fun b8 =>
      (f_M_step b8).bind fun r14 =>
      (z_loop (S := Int32 × zS) (β := Int32 × zS) (fun s15 =>
          if (s15.2 90 15) = 0 then
            if (s15.2 90 19) = 0 then
              some (.inr (s15.1, s15.2))
            else
              (f_M_readLine s15.2).bind fun r18 =>
              some (.inl ((s15.1 + (1 : Int32)), r18))
          else
            some (.inr (s15.1, s15.2))
        ) ((0 : Int32), r14)).bind (fun b15 =>
          z_join (T := zS) (fun t19 =>
              (z_loop (S := Int32 × zS) (β := zS) (fun s20 =>
                  if (32 : Int32) ≤ s20.1 then
                    some (.inr s20.2)
                  else
                    if (s20.2 90 15) = 0 then
                      z_join (T := zS) (fun t23 =>
                          some (.inl ((s20.1 + (1 : Int32)), t23))
                        ) (fun j23 =>
                          if (((s20.2 93 (80 : Int32).toNatClampNeg) >>> (s20.1 &&& 31)) &&& (1 : Int32)) = (1 : Int32) then
                            (f_M_isEdgeOf s20.1 (s20.2 90 6) (s20.2 90 7) s20.2).bind fun r25 =>
                            if r25 = 0 then
                              (f_M_fails (7 : Int32) s20.2).bind fun r27 =>
                              j23 r27
                            else
                              j23 s20.2
                          else
                            j23 s20.2
                        )
                    else
                      some (.inr s20.2)
                ) ((0 : Int32), t19)).bind (fun b20 =>
                  z_let (z_u b20 90 13 (0 : Int32)) fun τ28 =>
                  z_let (z_u τ28 90 14 (τ28 90 15)) fun τ29 =>
                  if (τ29 90 15) ≤ 0 then
                    (z_loop (S := Int32 × zS) (β := zS) (fun s31 =>
                        if (110 : Int32) ≤ s31.1 then
                          some (.inr s31.2)
                        else
                          if z_ib s31.1 110 = true then
                          if z_ib s31.1 550 = true then
                          z_let (z_u s31.2 91 s31.1.toNatClampNeg (s31.2 93 s31.1.toNatClampNeg)) fun τ35 =>
                          some (.inl ((s31.1 + (1 : Int32)), τ35))
                          else none
                          else none
                      ) ((0 : Int32), τ29)).bind (fun b31 =>
                        z_let (z_u b31 90 1 (b31 90 6)) fun τ36 =>
                        z_let (z_u τ36 90 2 (τ36 90 7)) fun τ37 =>
                        z_let (z_u τ37 90 3 (τ37 90 8)) fun τ38 =>
                        z_let (z_u τ38 90 26 (0 : Int32)) fun τ39 =>
                        z_let (z_u τ39 101 (0 : Int32).toNatClampNeg (vp_nar .boolean (0 : Int32))) fun τ40 =>
                        z_let (z_u τ40 101 (1 : Int32).toNatClampNeg (vp_nar .boolean (0 : Int32))) fun τ41 =>
                        some (b15.1, τ41)
                      )
                  else
                    some (((-10 : Int32) - (τ29 90 16)), τ29)
                )
            ) (fun j19 =>
              if (b15.2 90 15) = 0 then
                if (b15.2 90 11) < ((b15.2 90 6) * (b15.2 90 7)) then
                  j19 b15.2
                else
                  (f_M_fails (6 : Int32) b15.2).bind fun r44 =>
                  j19 r44
              else
                j19 b15.2
            )
        )
    )
/-- SeasonYard.fault()I -/
noncomputable def f_Y_fault  (σ : zS) : Option (Int32) :=
  some (σ 0 9)
/-- SeasonYardModel.fault()I -/
noncomputable def f_M_fault  (σ : zS) : Option (Int32) :=
  some (σ 90 14)
/-- SeasonYard.rule(I)I -/
noncomputable def f_Y_rule (a1 : Int32) (σ : zS) : Option (Int32) :=
  if a1 = (0 : Int32) then
    some (σ 1 0)
  else
  if a1 = (1 : Int32) then
    some (σ 1 1)
  else
  if a1 = (2 : Int32) then
    some (σ 7 3)
  else
  if a1 = (3 : Int32) then
    some (σ 11 2)
  else
  if a1 = (4 : Int32) then
    some (σ 1 10)
  else
  if a1 = (5 : Int32) then
    some (σ 1 12)
  else
    some (-1 : Int32)
/-- SeasonYardModel.rule(I)I -/
noncomputable def f_M_rule (a1 : Int32) (σ : zS) : Option (Int32) :=
  if a1 = (0 : Int32) then
    some (σ 90 1)
  else
  if a1 = (1 : Int32) then
    some (σ 90 2)
  else
  if a1 = (2 : Int32) then
    some (σ 90 3)
  else
  if a1 = (3 : Int32) then
    some (σ 91 (104 : Int32).toNatClampNeg)
  else
  if a1 = (4 : Int32) then
    some (σ 91 (105 : Int32).toNatClampNeg)
  else
  if a1 = (5 : Int32) then
    some (σ 91 (109 : Int32).toNatClampNeg)
  else
    some (-1 : Int32)
/-- SeasonYard$Garden.cells()I -/
noncomputable def f_G_cells_1  (σ : zS) : Option (Int32) :=
  if (16 : Int32) ≤ ((σ 1 0) * (σ 1 1)) then
    some (16 : Int32)
  else
    some ((σ 1 0) * (σ 1 1))
/-- SeasonYard$Garden.hasCell(I)Z -/
noncomputable def f_G_hasCell_1 (a1 : Int32) (σ : zS) : Option (Int32) :=
  if a1 < 0 then
    some (0 : Int32)
  else
    (f_G_cells_1 σ).bind fun r2 =>
    if r2 ≤ a1 then
      some (0 : Int32)
    else
      some (1 : Int32)
/-- SeasonYard$Garden.facet(II)I -/
noncomputable def f_G_facet_1 (a1 : Int32) (a2 : Int32) (σ : zS) : Option (Int32) :=
  (f_G_hasCell_1 a1 σ).bind fun r1 =>
  if r1 = 0 then
    some (-1 : Int32)
  else
    if a2 = (0 : Int32) then
      if z_ib a1 16 = true then
      some (σ 2 a1.toNatClampNeg)
      else none
    else
    if a2 = (1 : Int32) then
      if z_ib a1 16 = true then
      some (σ 3 a1.toNatClampNeg)
      else none
    else
    if a2 = (2 : Int32) then
      if z_ib a1 16 = true then
      some (σ 4 a1.toNatClampNeg)
      else none
    else
    if a2 = (3 : Int32) then
      if z_ib a1 16 = true then
      some (σ 5 a1.toNatClampNeg)
      else none
    else
    if a2 = (4 : Int32) then
      if z_ib a1 16 = true then
      some (σ 6 a1.toNatClampNeg)
      else none
    else
      some (-1 : Int32)
/-- SeasonYard.cell(II)I -/
noncomputable def f_Y_cell (a1 : Int32) (a2 : Int32) (σ : zS) : Option (Int32) :=
  (f_G_facet_1 a1 a2 σ).bind fun r1 =>
  some r1
/-- SeasonYardModel.isCell(I)Z -/
noncomputable def f_M_isCell (a1 : Int32) (σ : zS) : Option (Int32) :=
  (f_M_in (a1.toInt64) (0 : Int64) ((((σ 90 1) * (σ 90 2)) - (1 : Int32)).toInt64) σ).bind fun r1 =>
  if r1 = 0 ∨ r1 = 1 then
  some r1
  else none
/-- SeasonYardModel.lies(II)I -/
noncomputable def f_M_lies (a1 : Int32) (a2 : Int32) (σ : zS) : Option (Int32) :=
  if z_ib ((a1 + ((5 : Int32) * a2)) + (1 : Int32)) 550 = true then
  if (σ 91 ((a1 + ((5 : Int32) * a2)) + (1 : Int32)).toNatClampNeg) = 0 then
    some (4 : Int32)
  else
    if z_ib (a1 + ((5 : Int32) * a2)) 550 = true then
    some (σ 91 (a1 + ((5 : Int32) * a2)).toNatClampNeg)
    else none
  else none
/-- SeasonYardModel.cropIn(II)I -/
noncomputable def f_M_cropIn (a1 : Int32) (a2 : Int32) (σ : zS) : Option (Int32) :=
  if z_ib ((a1 + ((5 : Int32) * a2)) + (2 : Int32)) 550 = true then
  if (σ 91 ((a1 + ((5 : Int32) * a2)) + (2 : Int32)).toNatClampNeg) = 0 then
    some (-4 : Int32)
  else
    if z_ib ((a1 + ((5 : Int32) * a2)) + (2 : Int32)) 550 = true then
    some ((σ 91 ((a1 + ((5 : Int32) * a2)) + (2 : Int32)).toNatClampNeg) - (1 : Int32))
    else none
  else none
/-- SeasonYardModel.asked(III)I -/
noncomputable def f_M_asked (a1 : Int32) (a2 : Int32) (a3 : Int32) (σ : zS) : Option (Int32) :=
  if a3 = 0 then
    (f_M_lies a1 a2 σ).bind fun r2 =>
    some r2
  else
    if a3 = (2 : Int32) then
      (f_M_cropIn a1 a2 σ).bind fun r4 =>
      some r4
    else
      if z_ib ((a1 + ((5 : Int32) * a2)) + a3) 550 = true then
      some (σ 91 ((a1 + ((5 : Int32) * a2)) + a3).toNatClampNeg)
      else none
/-- SeasonYardModel.cell(II)I -/
noncomputable def f_M_cell (a1 : Int32) (a2 : Int32) (σ : zS) : Option (Int32) :=
  (f_M_isCell a1 σ).bind fun r1 =>
  if r1 = 0 then
    some (-1 : Int32)
  else
    (f_M_in (a2.toInt64) (0 : Int64) (4 : Int64) σ).bind fun r3 =>
    if r3 = 0 then
      some (-1 : Int32)
    else
      (f_M_asked (0 : Int32) a1 a2 σ).bind fun r5 =>
      some r5
/-- SeasonYard$Garden.hasEast(I)Z -/
noncomputable def f_G_hasEast_1 (a1 : Int32) (σ : zS) : Option (Int32) :=
  if (σ 1 0) ≤ 0 then
    some (0 : Int32)
  else
    if (σ 1 0) = 0 then none else
    if ((σ 1 0) - (1 : Int32)) ≤ (a1 - a1 / (σ 1 0) * (σ 1 0)) then
      some (0 : Int32)
    else
      some (1 : Int32)
/-- SeasonYard$Garden.hasEdge(I)Z -/
noncomputable def f_G_hasEdge_1 (a1 : Int32) (σ : zS) : Option (Int32) :=
  (f_G_hasCell_1 (a1 >>> ((1 : Int32) &&& 31)) σ).bind fun r1 =>
  if r1 = 0 then
    some (0 : Int32)
  else
    if (a1 &&& (1 : Int32)) = 0 then
      (f_G_hasEast_1 (a1 >>> ((1 : Int32) &&& 31)) σ).bind fun r4 =>
      if r4 = 0 ∨ r4 = 1 then
      some r4
      else none
    else
      (f_G_hasCell_1 ((a1 >>> ((1 : Int32) &&& 31)) + (σ 1 0)) σ).bind fun r6 =>
      if r6 = 0 ∨ r6 = 1 then
      some r6
      else none
/-- SeasonYard$Garden.isOpen(I)Z -/
noncomputable def f_G_isOpen_1 (a1 : Int32) (σ : zS) : Option (Int32) :=
  if ((((σ 1 7).toUInt32 >>> (a1.toUInt32 &&& Int32.toUInt32 31)).toInt32) &&& (1 : Int32)) = 0 then
    some (1 : Int32)
  else
    some (0 : Int32)
/-- SeasonYard.edge(I)I -/
noncomputable def f_Y_edge (a1 : Int32) (σ : zS) : Option (Int32) :=
  (f_G_hasEdge_1 a1 σ).bind fun r1 =>
  if r1 = 0 then
    some (-1 : Int32)
  else
    (f_G_isOpen_1 a1 σ).bind fun r3 =>
    if r3 = 0 then
      some (1 : Int32)
    else
      some (0 : Int32)
/-- SeasonYardModel.isEdge(I)Z -/
noncomputable def f_M_isEdge (a1 : Int32) (σ : zS) : Option (Int32) :=
  (f_M_isEdgeOf a1 (σ 90 1) (σ 90 2) σ).bind fun r1 =>
  if r1 = 0 ∨ r1 = 1 then
  some r1
  else none
/-- SeasonYardModel.edge(I)I -/
noncomputable def f_M_edge (a1 : Int32) (σ : zS) : Option (Int32) :=
  (f_M_isEdge a1 σ).bind fun r1 =>
  if r1 = 0 then
    some (-1 : Int32)
  else
    some (((σ 91 (80 : Int32).toNatClampNeg) >>> (a1 &&& 31)) &&& (1 : Int32))
/-- SeasonYard.stock(II)I -/
noncomputable def f_Y_stock (a1 : Int32) (a2 : Int32) (σ : zS) : Option (Int32) :=
  (f_Y_isSeason a1 σ).bind fun r1 =>
  if r1 = 0 then
    some (-1 : Int32)
  else
    (f_Y_isIn a2 (0 : Int32) (1 : Int32) σ).bind fun r3 =>
    if r3 = 0 then
      some (-1 : Int32)
    else
      if a2 = 0 then
        if z_ib a1 4 = true then
        some (σ 12 a1.toNatClampNeg)
        else none
      else
        if z_ib a1 4 = true then
        some (σ 13 a1.toNatClampNeg)
        else none
/-- SeasonYardModel.isSeason(I)Z -/
noncomputable def f_M_isSeason (a0 : Int32) (σ : zS) : Option (Int32) :=
  (f_M_in (a0.toInt64) (0 : Int64) (3 : Int64) σ).bind fun r1 =>
  if r1 = 0 ∨ r1 = 1 then
  some r1
  else none
/-- SeasonYardModel.stock(II)I -/
noncomputable def f_M_stock (a1 : Int32) (a2 : Int32) (σ : zS) : Option (Int32) :=
  (f_M_isSeason a1 σ).bind fun r1 =>
  if r1 = 0 then
    some (-1 : Int32)
  else
    (f_M_in (a2.toInt64) (0 : Int64) (1 : Int64) σ).bind fun r3 =>
    if r3 = 0 then
      some (-1 : Int32)
    else
      if z_ib (((96 : Int32) + ((2 : Int32) * a1)) + a2) 550 = true then
      some ((σ 91 (((96 : Int32) + ((2 : Int32) * a1)) + a2).toNatClampNeg) + a2)
      else none
/-- SeasonYard$Laws.has(I)Z -/
noncomputable def f_Lw_has_7 (a1 : Int32) (σ : zS) : Option (Int32) :=
  if a1 < 0 then
    some (0 : Int32)
  else
    if (σ 7 3) ≤ a1 then
      some (0 : Int32)
    else
      if (5 : Int32) ≤ a1 then
        some (0 : Int32)
      else
        some (1 : Int32)
/-- SeasonYard.law(II)I -/
noncomputable def f_Y_law (a1 : Int32) (a2 : Int32) (σ : zS) : Option (Int32) :=
  (f_Lw_has_7 a1 σ).bind fun r1 =>
  if r1 = 0 then
    some (-1 : Int32)
  else
    if a2 = (0 : Int32) then
      if z_ib a1 5 = true then
      some (σ 8 a1.toNatClampNeg)
      else none
    else
    if a2 = (1 : Int32) then
      if z_ib a1 5 = true then
      some (σ 9 a1.toNatClampNeg)
      else none
    else
    if a2 = (2 : Int32) then
      if z_ib a1 5 = true then
      some (σ 10 a1.toNatClampNeg)
      else none
    else
      some (-1 : Int32)
/-- SeasonYardModel.isRule(I)Z -/
noncomputable def f_M_isRule (a1 : Int32) (σ : zS) : Option (Int32) :=
  (f_M_in (a1.toInt64) (0 : Int64) (((σ 90 3) - (1 : Int32)).toInt64) σ).bind fun r1 =>
  if r1 = 0 ∨ r1 = 1 then
  some r1
  else none
/-- SeasonYardModel.law(II)I -/
noncomputable def f_M_law (a1 : Int32) (a2 : Int32) (σ : zS) : Option (Int32) :=
  (f_M_isRule a1 σ).bind fun r1 =>
  if r1 = 0 then
    some (-1 : Int32)
  else
    (f_M_in (a2.toInt64) (0 : Int64) (2 : Int64) σ).bind fun r3 =>
    if r3 = 0 then
      some (-1 : Int32)
    else
      if z_ib (((81 : Int32) + ((3 : Int32) * a1)) + a2) 550 = true then
      some (σ 91 (((81 : Int32) + ((3 : Int32) * a1)) + a2).toNatClampNeg)
      else none
/-- SeasonYard.ripe(I)I -/
noncomputable def f_Y_ripe (a1 : Int32) (σ : zS) : Option (Int32) :=
  (f_Y_isIn a1 (0 : Int32) (2 : Int32) σ).bind fun r1 =>
  if r1 = 0 then
    some (-1 : Int32)
  else
    if z_ib a1 3 = true then
    some (σ 14 a1.toNatClampNeg)
    else none
/-- SeasonYardModel.ripe(I)I -/
noncomputable def f_M_ripe (a1 : Int32) (σ : zS) : Option (Int32) :=
  (f_M_in (a1.toInt64) (0 : Int64) (2 : Int64) σ).bind fun r1 =>
  if r1 = 0 then
    some (-1 : Int32)
  else
    if z_ib ((106 : Int32) + a1) 550 = true then
    some (σ 91 ((106 : Int32) + a1).toNatClampNeg)
    else none
/-- SeasonYard$Shop.sells(II)Z -/
noncomputable def f_Sp_sells_11 (a1 : Int32) (a2 : Int32) (σ : zS) : Option (Int32) :=
  (f_Y_isSeason a1 σ).bind fun r1 =>
  if r1 = 0 then
    some (0 : Int32)
  else
    if z_ib a1 4 = true then
    if (σ 12 a1.toNatClampNeg) < a2 then
      some (0 : Int32)
    else
      if z_ib a1 4 = true then
      if (σ 11 2) < ((σ 13 a1.toNatClampNeg) * a2) then
        some (0 : Int32)
      else
        some (1 : Int32)
      else none
    else none
/-- SeasonYard$Shop.take(II)V -/
noncomputable def f_Sp_take_11 (a1 : Int32) (a2 : Int32) (σ : zS) : Option (zS) :=
  (f_Y_isSeason a1 σ).bind fun r1 =>
  if r1 = 0 then
    some σ
  else
    if z_ib a1 4 = true then
    if z_ib a1 4 = true then
    z_let (z_u σ 12 a1.toNatClampNeg ((σ 12 a1.toNatClampNeg) - a2)) fun τ5 =>
    if z_ib a1 4 = true then
    z_let (z_u τ5 11 2 ((τ5 11 2) - ((τ5 13 a1.toNatClampNeg) * a2))) fun τ7 =>
    some τ7
    else none
    else none
    else none
/-- SeasonYard$Garden.set(III)V -/
noncomputable def f_G_set_1 (a1 : Int32) (a2 : Int32) (a3 : Int32) (σ : zS) : Option (zS) :=
  (f_Y_isIn a1 (0 : Int32) (15 : Int32) σ).bind fun r1 =>
  if r1 = 0 then
    some σ
  else
    if z_ib a1 16 = true then
    z_let (z_u σ 2 a1.toNatClampNeg a2) fun τ4 =>
    if z_ib a1 16 = true then
    z_let (z_u τ4 3 a1.toNatClampNeg a3) fun τ6 =>
    some τ6
    else none
    else none
/-- SeasonYard$Garden.buyAndSet(III)I -/
noncomputable def f_G_buyAndSet_1 (a1 : Int32) (a2 : Int32) (a3 : Int32) (σ : zS) : Option (Int32 × zS) :=
  (f_G_hasCell_1 a1 σ).bind fun r1 =>
  if r1 = 0 then
    some ((-1 : Int32), σ)
  else
    (f_Y_isSeason a2 σ).bind fun r3 =>
    if r3 = 0 then
      some ((-1 : Int32), σ)
    else
      (f_Y_isIn a3 (1 : Int32) (9 : Int32) σ).bind fun r5 =>
      if r5 = 0 then
        some ((-1 : Int32), σ)
      else
        (f_Sp_sells_11 a2 a3 σ).bind fun r7 =>
        if r7 = 0 then
          some ((-2 : Int32), σ)
        else
          (f_Sp_take_11 a2 a3 σ).bind fun r9 =>
          (f_G_set_1 a1 a2 a3 r9).bind fun r10 =>
          some ((r10 11 2), r10)
/-- SeasonYard.lay(III)I -/
noncomputable def f_Y_lay (a1 : Int32) (a2 : Int32) (a3 : Int32) (σ : zS) : Option (Int32 × zS) :=
  (f_G_buyAndSet_1 a1 a2 a3 σ).bind fun r1 =>
  some (r1.1, r1.2)
/-- SeasonYardModel.lays(IIII)V -/
noncomputable def f_M_lays (a1 : Int32) (a2 : Int32) (a3 : Int32) (a4 : Int32) (σ : zS) : Option (zS) :=
  if z_ib (a1 + ((5 : Int32) * a2)) 550 = true then
  z_let (z_u σ 91 (a1 + ((5 : Int32) * a2)).toNatClampNeg a3) fun τ2 =>
  if z_ib ((a1 + ((5 : Int32) * a2)) + (1 : Int32)) 550 = true then
  z_let (z_u τ2 91 ((a1 + ((5 : Int32) * a2)) + (1 : Int32)).toNatClampNeg a4) fun τ4 =>
  some τ4
  else none
  else none
/-- SeasonYardModel.buys(III)I -/
noncomputable def f_M_buys (a1 : Int32) (a2 : Int32) (a3 : Int32) (σ : zS) : Option (Int32 × zS) :=
  (f_M_isCell a1 σ).bind fun r1 =>
  if r1 = 0 then
    some ((-1 : Int32), σ)
  else
    (f_M_isSeason a2 σ).bind fun r3 =>
    if r3 = 0 then
      some ((-1 : Int32), σ)
    else
      (f_M_in (a3.toInt64) (1 : Int64) (9 : Int64) σ).bind fun r5 =>
      if r5 = 0 then
        some ((-1 : Int32), σ)
      else
        if z_ib (((96 : Int32) + ((2 : Int32) * a2)) + (1 : Int32)) 550 = true then
        z_let (a3 * ((σ 91 (((96 : Int32) + ((2 : Int32) * a2)) + (1 : Int32)).toNatClampNeg) + (1 : Int32))) fun v8 =>
        if z_ib ((96 : Int32) + ((2 : Int32) * a2)) 550 = true then
        if (σ 91 ((96 : Int32) + ((2 : Int32) * a2)).toNatClampNeg) < a3 then
          some ((-2 : Int32), σ)
        else
          if v8 ≤ (σ 91 (104 : Int32).toNatClampNeg) then
            if z_ib ((96 : Int32) + ((2 : Int32) * a2)) 550 = true then
            if z_ib ((96 : Int32) + ((2 : Int32) * a2)) 550 = true then
            z_let (z_u σ 91 ((96 : Int32) + ((2 : Int32) * a2)).toNatClampNeg ((σ 91 ((96 : Int32) + ((2 : Int32) * a2)).toNatClampNeg) - a3)) fun τ14 =>
            z_let (z_u τ14 91 (104 : Int32).toNatClampNeg ((τ14 91 (104 : Int32).toNatClampNeg) - v8)) fun τ15 =>
            (f_M_lays (0 : Int32) a1 a2 a3 τ15).bind fun r16 =>
            some ((r16 91 (104 : Int32).toNatClampNeg), r16)
            else none
            else none
          else
            some ((-2 : Int32), σ)
        else none
        else none
/-- SeasonYardModel.lay(III)I -/
noncomputable def f_M_lay (a1 : Int32) (a2 : Int32) (a3 : Int32) (σ : zS) : Option (Int32 × zS) :=
  (f_M_buys a1 a2 a3 σ).bind fun r1 =>
  some (r1.1, r1.2)
/-- SeasonYard$Garden.setBare(I)V -/
noncomputable def f_G_setBare_1 (a1 : Int32) (σ : zS) : Option (zS) :=
  (f_G_set_1 a1 (4 : Int32) (0 : Int32) σ).bind fun r1 =>
  some r1
/-- SeasonYard.bare(I)I -/
noncomputable def f_Y_bare (a1 : Int32) (σ : zS) : Option (Int32 × zS) :=
  (f_G_hasCell_1 a1 σ).bind fun r1 =>
  if r1 = 0 then
    some ((-1 : Int32), σ)
  else
    if z_ib a1 16 = true then
    (f_G_setBare_1 a1 σ).bind fun r4 =>
    some ((σ 3 a1.toNatClampNeg), r4)
    else none
/-- SeasonYardModel.sets(ZII)I -/
noncomputable def f_M_sets (a1 : Int32) (a2 : Int32) (a3 : Int32) (σ : zS) : Option (Int32 × zS) :=
  if a1 = 0 then
    some ((-1 : Int32), σ)
  else
    if z_ib a2 550 = true then
    if z_ib a2 550 = true then
    z_let (z_u σ 91 a2.toNatClampNeg a3) fun τ4 =>
    some ((σ 91 a2.toNatClampNeg), τ4)
    else none
    else none
/-- SeasonYardModel.bare(I)I -/
noncomputable def f_M_bare (a1 : Int32) (σ : zS) : Option (Int32 × zS) :=
  (f_M_isCell a1 σ).bind fun r1 =>
  (f_M_sets r1 (((5 : Int32) * a1) + (1 : Int32)) (0 : Int32) σ).bind fun r2 =>
  some (r2.1, r2.2)
/-- SeasonYard$Garden.setCrop(II)V -/
noncomputable def f_G_setCrop_1 (a1 : Int32) (a2 : Int32) (σ : zS) : Option (zS) :=
  (f_Y_isIn a1 (0 : Int32) (15 : Int32) σ).bind fun r1 =>
  if r1 = 0 then
    some σ
  else
    if z_ib a1 16 = true then
    z_let (z_u σ 4 a1.toNatClampNeg a2) fun τ4 =>
    if z_ib a1 16 = true then
    z_let (z_u τ4 5 a1.toNatClampNeg (0 : Int32)) fun τ6 =>
    some τ6
    else none
    else none
/-- SeasonYard$Crops.isKind(I)Z -/
noncomputable def f_Cr_isKind (a0 : Int32) (σ : zS) : Option (Int32) :=
  (f_Y_isIn a0 (0 : Int32) (4 : Int32) σ).bind fun r1 =>
  if r1 = 0 ∨ r1 = 1 then
  some r1
  else none
/-- SeasonYard.sow(II)I -/
noncomputable def f_Y_sow (a1 : Int32) (a2 : Int32) (σ : zS) : Option (Int32 × zS) :=
  (f_G_hasCell_1 a1 σ).bind fun r1 =>
  if r1 = 0 then
    some ((-1 : Int32), σ)
  else
    z_join (T := Unit) (fun t3 =>
        if z_ib a1 16 = true then
        (f_G_setCrop_1 a1 a2 σ).bind fun r5 =>
        some ((σ 4 a1.toNatClampNeg), r5)
        else none
      ) (fun j3 =>
        if a2 = (-4 : Int32) then
          j3 ()
        else
          (f_Cr_isKind a2 σ).bind fun r7 =>
          if r7 = 0 then
            some ((-1 : Int32), σ)
          else
            j3 ()
      )
/-- SeasonYardModel.sow(II)I -/
noncomputable def f_M_sow (a1 : Int32) (a2 : Int32) (σ : zS) : Option (Int32 × zS) :=
  (f_M_isCell a1 σ).bind fun r1 =>
  if r1 = 0 then
    some ((-1 : Int32), σ)
  else
    z_join (T := Unit) (fun t3 =>
        (f_M_cropIn (0 : Int32) a1 σ).bind fun r4 =>
        z_join (T := Int32 × Int32) (fun t5 =>
            if z_ib t5.2 550 = true then
            z_let (z_u σ 91 t5.2.toNatClampNeg t5.1) fun τ7 =>
            if z_ib (((5 : Int32) * a1) + (3 : Int32)) 550 = true then
            z_let (z_u τ7 91 (((5 : Int32) * a1) + (3 : Int32)).toNatClampNeg (0 : Int32)) fun τ9 =>
            some (r4, τ9)
            else none
            else none
          ) (fun j5 =>
            if a2 = (-4 : Int32) then
              j5 ((0 : Int32), (((5 : Int32) * a1) + (2 : Int32)))
            else
              j5 ((a2 + (1 : Int32)), (((5 : Int32) * a1) + (2 : Int32)))
          )
      ) (fun j3 =>
        if a2 = (-4 : Int32) then
          j3 ()
        else
          (f_M_in (a2.toInt64) (0 : Int64) (4 : Int64) σ).bind fun r12 =>
          if r12 = 0 then
            some ((-1 : Int32), σ)
          else
            j3 ()
      )
/-- SeasonYard.own(II)I -/
noncomputable def f_Y_own (a1 : Int32) (a2 : Int32) (σ : zS) : Option (Int32 × zS) :=
  (f_G_hasCell_1 a1 σ).bind fun r1 =>
  if r1 = 0 then
    some ((-1 : Int32), σ)
  else
    (f_Y_isIn a2 (0 : Int32) (2 : Int32) σ).bind fun r3 =>
    if r3 = 0 then
      some ((-1 : Int32), σ)
    else
      if z_ib a1 16 = true then
      if z_ib a1 16 = true then
      z_let (z_u σ 6 a1.toNatClampNeg a2) fun τ7 =>
      some ((σ 6 a1.toNatClampNeg), τ7)
      else none
      else none
/-- SeasonYardModel.own(II)I -/
noncomputable def f_M_own (a1 : Int32) (a2 : Int32) (σ : zS) : Option (Int32 × zS) :=
  (f_M_isCell a1 σ).bind fun r1 =>
  z_join (T := Int32) (fun t2 =>
      (f_M_sets t2 (((5 : Int32) * a1) + (4 : Int32)) a2 σ).bind fun r3 =>
      some (r3.1, r3.2)
    ) (fun j2 =>
      z_join (T := Unit) (fun t4 =>
          j2 (0 : Int32)
        ) (fun j4 =>
          if r1 = 0 then
            j4 ()
          else
            (f_M_in (a2.toInt64) (0 : Int64) (2 : Int64) σ).bind fun r6 =>
            if r6 = 0 then
              j4 ()
            else
              j2 (1 : Int32)
        )
    )
/-- SeasonYard$Garden.setWall(IZ)V -/
noncomputable def f_G_setWall_1 (a1 : Int32) (a2 : Int32) (σ : zS) : Option (zS) :=
  z_join (T := Int32) (fun t1 =>
      z_let (z_u σ 1 7 t1) fun τ2 =>
      some τ2
    ) (fun j1 =>
      if a2 = 0 then
        j1 ((σ 1 7) &&& (((1 : Int32) <<< (a1 &&& 31)) ^^^ (-1 : Int32)))
      else
        j1 ((σ 1 7) ||| ((1 : Int32) <<< (a1 &&& 31)))
    )
/-- SeasonYard.wall(IZ)I -/
noncomputable def f_Y_wall (a1 : Int32) (a2 : Int32) (σ : zS) : Option (Int32 × zS) :=
  (f_G_hasEdge_1 a1 σ).bind fun r1 =>
  if r1 = 0 then
    some ((-1 : Int32), σ)
  else
    (f_G_isOpen_1 a1 σ).bind fun r3 =>
    z_join (T := Int32) (fun t4 =>
        (f_G_setWall_1 a1 a2 σ).bind fun r5 =>
        some (t4, r5)
      ) (fun j4 =>
        if r3 = 0 then
          j4 (1 : Int32)
        else
          j4 (0 : Int32)
      )
/-- SeasonYardModel.wall(IZ)I -/
noncomputable def f_M_wall (a1 : Int32) (a2 : Int32) (σ : zS) : Option (Int32 × zS) :=
  (f_M_isEdge a1 σ).bind fun r1 =>
  if r1 = 0 then
    some ((-1 : Int32), σ)
  else
    z_let (((σ 91 (80 : Int32).toNatClampNeg) >>> (a1 &&& 31)) &&& (1 : Int32)) fun v3 =>
    z_join (T := Int32 × Int32 × Int32) (fun t4 =>
        if z_ib t4.2.2 550 = true then
        z_let (z_u σ 91 t4.2.2.toNatClampNeg (t4.2.1 ||| t4.1)) fun τ6 =>
        some (v3, τ6)
        else none
      ) (fun j4 =>
        if a2 = 0 then
          j4 ((0 : Int32), ((σ 91 (80 : Int32).toNatClampNeg) &&& (((1 : Int32) <<< (a1 &&& 31)) ^^^ (-1 : Int32))), (80 : Int32))
        else
          j4 (((1 : Int32) <<< (a1 &&& 31)), ((σ 91 (80 : Int32).toNatClampNeg) &&& (((1 : Int32) <<< (a1 &&& 31)) ^^^ (-1 : Int32))), (80 : Int32))
      )
/-- SeasonYard.store(II)I -/
noncomputable def f_Y_store (a1 : Int32) (a2 : Int32) (σ : zS) : Option (Int32 × zS) :=
  (f_Y_isSeason a1 σ).bind fun r1 =>
  if r1 = 0 then
    some ((-1 : Int32), σ)
  else
    (f_Y_isIn a2 (0 : Int32) (99 : Int32) σ).bind fun r3 =>
    if r3 = 0 then
      some ((-1 : Int32), σ)
    else
      if z_ib a1 4 = true then
      if z_ib a1 4 = true then
      z_let (z_u σ 12 a1.toNatClampNeg a2) fun τ7 =>
      some ((σ 12 a1.toNatClampNeg), τ7)
      else none
      else none
/-- SeasonYardModel.store(II)I -/
noncomputable def f_M_store (a1 : Int32) (a2 : Int32) (σ : zS) : Option (Int32 × zS) :=
  (f_M_isSeason a1 σ).bind fun r1 =>
  z_join (T := Int32) (fun t2 =>
      (f_M_sets t2 ((96 : Int32) + ((2 : Int32) * a1)) a2 σ).bind fun r3 =>
      some (r3.1, r3.2)
    ) (fun j2 =>
      z_join (T := Unit) (fun t4 =>
          j2 (0 : Int32)
        ) (fun j4 =>
          if r1 = 0 then
            j4 ()
          else
            (f_M_in (a2.toInt64) (0 : Int64) (99 : Int64) σ).bind fun r6 =>
            if r6 = 0 then
              j4 ()
            else
              j2 (1 : Int32)
        )
    )
/-- SeasonYard.price(II)I -/
noncomputable def f_Y_price (a1 : Int32) (a2 : Int32) (σ : zS) : Option (Int32 × zS) :=
  (f_Y_isSeason a1 σ).bind fun r1 =>
  if r1 = 0 then
    some ((-1 : Int32), σ)
  else
    (f_Y_isIn a2 (1 : Int32) (9 : Int32) σ).bind fun r3 =>
    if r3 = 0 then
      some ((-1 : Int32), σ)
    else
      if z_ib a1 4 = true then
      if z_ib a1 4 = true then
      z_let (z_u σ 13 a1.toNatClampNeg a2) fun τ7 =>
      some ((σ 13 a1.toNatClampNeg), τ7)
      else none
      else none
/-- SeasonYardModel.price(II)I -/
noncomputable def f_M_price (a1 : Int32) (a2 : Int32) (σ : zS) : Option (Int32 × zS) :=
  (f_M_isSeason a1 σ).bind fun r1 =>
  if r1 = 0 then
    some ((-1 : Int32), σ)
  else
    (f_M_in (a2.toInt64) (1 : Int64) (9 : Int64) σ).bind fun r3 =>
    if r3 = 0 then
      some ((-1 : Int32), σ)
    else
      (f_M_sets (1 : Int32) (((96 : Int32) + ((2 : Int32) * a1)) + (1 : Int32)) (a2 - (1 : Int32)) σ).bind fun r5 =>
      some (((1 : Int32) + r5.1), r5.2)
/-- SeasonYard.fund(I)I -/
noncomputable def f_Y_fund (a1 : Int32) (σ : zS) : Option (Int32 × zS) :=
  (f_Y_isIn a1 (0 : Int32) (999 : Int32) σ).bind fun r1 =>
  if r1 = 0 then
    some ((-1 : Int32), σ)
  else
    z_let (z_u σ 11 2 a1) fun τ3 =>
    some ((σ 11 2), τ3)
/-- SeasonYardModel.fund(I)I -/
noncomputable def f_M_fund (a1 : Int32) (σ : zS) : Option (Int32 × zS) :=
  (f_M_in (a1.toInt64) (0 : Int64) (999 : Int64) σ).bind fun r1 =>
  (f_M_sets r1 (104 : Int32) a1 σ).bind fun r2 =>
  some (r2.1, r2.2)
/-- SeasonYard.bite(II)I -/
noncomputable def f_Y_bite (a1 : Int32) (a2 : Int32) (σ : zS) : Option (Int32 × zS) :=
  (f_Lw_has_7 a1 σ).bind fun r1 =>
  if r1 = 0 then
    some ((-1 : Int32), σ)
  else
    (f_Y_isIn a2 (1 : Int32) (4 : Int32) σ).bind fun r3 =>
    if r3 = 0 then
      some ((-1 : Int32), σ)
    else
      if z_ib a1 5 = true then
      if z_ib a1 5 = true then
      z_let (z_u σ 10 a1.toNatClampNeg a2) fun τ7 =>
      some ((σ 10 a1.toNatClampNeg), τ7)
      else none
      else none
/-- SeasonYardModel.bite(II)I -/
noncomputable def f_M_bite (a1 : Int32) (a2 : Int32) (σ : zS) : Option (Int32 × zS) :=
  (f_M_isRule a1 σ).bind fun r1 =>
  z_join (T := Int32) (fun t2 =>
      (f_M_sets t2 (((81 : Int32) + ((3 : Int32) * a1)) + (2 : Int32)) a2 σ).bind fun r3 =>
      some (r3.1, r3.2)
    ) (fun j2 =>
      z_join (T := Unit) (fun t4 =>
          j2 (0 : Int32)
        ) (fun j4 =>
          if r1 = 0 then
            j4 ()
          else
            (f_M_in (a2.toInt64) (1 : Int64) (4 : Int64) σ).bind fun r6 =>
            if r6 = 0 then
              j4 ()
            else
              j2 (1 : Int32)
        )
    )
/-- SeasonYard$Garden.ripeOfAll()I -/
noncomputable def f_G_ripeOfAll_1  (σ : zS) : Option (Int32) :=
  (z_loop (S := Int32 × Int32) (β := Int32) (fun s1 =>
      if (3 : Int32) ≤ s1.2 then
        some (.inr s1.1)
      else
        if z_ib s1.2 3 = true then
        z_let (s1.1 + (σ 14 s1.2.toNatClampNeg)) fun v4 =>
        some (.inl (v4, (s1.2 + (1 : Int32))))
        else none
    ) ((0 : Int32), (0 : Int32))).bind (fun b1 =>
      some b1
    )
/-- java/util/Arrays.fill([II)V -/
noncomputable def f_JA_fill_15 (a1 : Int32) (σ : zS) : Option (zS) :=
  (z_loop (S := Int32 × zS) (β := zS) (fun s1 =>
      if (5 : Int32) ≤ s1.1 then
        some (.inr s1.2)
      else
        if z_ib s1.1 5 = true then
        z_let (z_u s1.2 15 s1.1.toNatClampNeg a1) fun τ4 =>
        some (.inl ((s1.1 + (1 : Int32)), τ4))
        else none
    ) ((0 : Int32), σ)).bind (fun b1 =>
      some b1
    )
/-- SeasonYard$Garden.notePlaces()V -/
noncomputable def f_G_notePlaces_1  (σ : zS) : Option (zS) :=
  (f_JA_fill_15 (0 : Int32) σ).bind fun r1 =>
  (z_loop (S := Int32 × zS) (β := zS) (fun s2 =>
      (f_G_cells_1 s2.2).bind fun r3 =>
      if r3 ≤ s2.1 then
        some (.inr s2.2)
      else
        if z_ib s2.1 16 = true then
        (f_Y_isIn (s2.2 2 s2.1.toNatClampNeg) (0 : Int32) (4 : Int32) s2.2).bind fun r6 =>
        z_join (T := zS) (fun t7 =>
            some (.inl ((s2.1 + (1 : Int32)), t7))
          ) (fun j7 =>
            if r6 = 0 then
              j7 s2.2
            else
              if z_ib s2.1 16 = true then
              if z_ib (s2.2 2 s2.1.toNatClampNeg) 5 = true then
              if z_ib (s2.2 2 s2.1.toNatClampNeg) 5 = true then
              z_let (z_u s2.2 15 (s2.2 2 s2.1.toNatClampNeg).toNatClampNeg ((s2.2 15 (s2.2 2 s2.1.toNatClampNeg).toNatClampNeg) ||| ((1 : Int32) <<< (s2.1 &&& 31)))) fun τ12 =>
              j7 τ12
              else none
              else none
              else none
          )
        else none
    ) ((0 : Int32), r1)).bind (fun b2 =>
      some b2
    )
/-- SeasonYard$Garden.nextTo(I)I -/
noncomputable def f_G_nextTo_1 (a1 : Int32) (σ : zS) : Option (Int32) :=
  (f_G_hasEast_1 a1 σ).bind fun r1 =>
  z_join (T := Int32) (fun t2 =>
      z_join (T := Int32) (fun t3 =>
          (f_G_hasCell_1 (a1 + (σ 1 0)) σ).bind fun r4 =>
          z_join (T := Int32) (fun t5 =>
              (f_G_hasCell_1 (a1 - (σ 1 0)) σ).bind fun r6 =>
              if r6 = 0 then
                some t5
              else
                (f_G_isOpen_1 (((2 : Int32) * (a1 - (σ 1 0))) + (1 : Int32)) σ).bind fun r8 =>
                if r8 = 0 then
                  some t5
                else
                  z_let (t5 ||| ((1 : Int32) <<< ((a1 - (σ 1 0)) &&& 31))) fun v10 =>
                  some v10
            ) (fun j5 =>
              if r4 = 0 then
                j5 t3
              else
                (f_G_isOpen_1 (((2 : Int32) * a1) + (1 : Int32)) σ).bind fun r12 =>
                if r12 = 0 then
                  j5 t3
                else
                  z_let (t3 ||| ((1 : Int32) <<< ((a1 + (σ 1 0)) &&& 31))) fun v14 =>
                  j5 v14
            )
        ) (fun j3 =>
          if a1 ≤ 0 then
            j3 t2
          else
            (f_G_hasEast_1 (a1 - (1 : Int32)) σ).bind fun r16 =>
            if r16 = 0 then
              j3 t2
            else
              (f_G_isOpen_1 (((2 : Int32) * a1) - (2 : Int32)) σ).bind fun r18 =>
              if r18 = 0 then
                j3 t2
              else
                z_let (t2 ||| ((1 : Int32) <<< ((a1 - (1 : Int32)) &&& 31))) fun v20 =>
                j3 v20
        )
    ) (fun j2 =>
      if r1 = 0 then
        j2 (0 : Int32)
      else
        (f_G_isOpen_1 ((2 : Int32) * a1) σ).bind fun r22 =>
        if r22 = 0 then
          j2 (0 : Int32)
        else
          z_let ((0 : Int32) ||| ((1 : Int32) <<< ((a1 + (1 : Int32)) &&& 31))) fun v24 =>
          j2 v24
    )
/-- java/lang/Integer.bitCount(I)I -/
noncomputable def f_JI_bitCount (a0 : Int32) (σ : zS) : Option (Int32) :=
  z_let (a0 - (((a0.toUInt32 >>> ((1 : Int32).toUInt32 &&& Int32.toUInt32 31)).toInt32) &&& (1431655765 : Int32))) fun v1 =>
  z_let ((v1 &&& (858993459 : Int32)) + (((v1.toUInt32 >>> ((2 : Int32).toUInt32 &&& Int32.toUInt32 31)).toInt32) &&& (858993459 : Int32))) fun v2 =>
  z_let ((v2 + ((v2.toUInt32 >>> ((4 : Int32).toUInt32 &&& Int32.toUInt32 31)).toInt32)) &&& (252645135 : Int32)) fun v3 =>
  z_let (v3 + ((v3.toUInt32 >>> ((8 : Int32).toUInt32 &&& Int32.toUInt32 31)).toInt32)) fun v4 =>
  z_let (v4 + ((v4.toUInt32 >>> ((16 : Int32).toUInt32 &&& Int32.toUInt32 31)).toInt32)) fun v5 =>
  some (v5 &&& (63 : Int32))
/-- SeasonYard$Garden.fits(II)Z -/
noncomputable def f_G_fits_1 (a1 : Int32) (a2 : Int32) (σ : zS) : Option (Int32) :=
  if z_ib a1 5 = true then
  if z_ib a1 5 = true then
  (f_Y_isSeason (σ 8 a1.toNatClampNeg) σ).bind fun r3 =>
  if r3 = 0 then
    some (0 : Int32)
  else
    (f_Y_isIn (σ 9 a1.toNatClampNeg) (0 : Int32) (4 : Int32) σ).bind fun r5 =>
    if r5 = 0 then
      some (0 : Int32)
    else
      if z_ib (σ 9 a1.toNatClampNeg) 5 = true then
      if ((((σ 15 (σ 9 a1.toNatClampNeg).toNatClampNeg).toUInt32 >>> (a2.toUInt32 &&& Int32.toUInt32 31)).toInt32) &&& (1 : Int32)) = 0 then
        some (0 : Int32)
      else
        if z_ib (σ 8 a1.toNatClampNeg) 5 = true then
        (f_G_nextTo_1 a2 σ).bind fun r10 =>
        (f_JI_bitCount ((σ 15 (σ 8 a1.toNatClampNeg).toNatClampNeg) &&& r10) σ).bind fun r11 =>
        if z_ib a1 5 = true then
        if r11 < (σ 10 a1.toNatClampNeg) then
          some (0 : Int32)
        else
          some (1 : Int32)
        else none
        else none
      else none
  else none
  else none
/-- SeasonYard$Garden.firstFitting(I)I -/
noncomputable def f_G_firstFitting_1 (a1 : Int32) (σ : zS) : Option (Int32) :=
  (z_loop (S := Int32) (β := (Unit) ⊕ (Int32)) (fun s1 =>
      if (σ 7 3) ≤ s1 then
        some (.inr (.inl ()))
      else
        if (5 : Int32) ≤ s1 then
          some (.inr (.inl ()))
        else
          (f_G_fits_1 s1 a1 σ).bind fun r4 =>
          if r4 = 0 then
            some (.inl (s1 + (1 : Int32)))
          else
            some (.inr (.inr s1))
    ) (0 : Int32)).bind (fun bb => match bb with
    | .inl b1 =>
      some (-4 : Int32)
    | .inr g => some g)
/-- SeasonYard$Garden.spread()V -/
noncomputable def f_G_spread_1  (σ : zS) : Option (zS) :=
  if (σ 7 3) = 0 then
    some σ
  else
    (f_G_notePlaces_1 σ).bind fun r2 =>
    (z_loop (S := Int32 × zS) (β := zS) (fun s3 =>
        (f_G_cells_1 s3.2).bind fun r4 =>
        if r4 ≤ s3.1 then
          some (.inr s3.2)
        else
          (f_G_firstFitting_1 s3.1 s3.2).bind fun r6 =>
          if z_ib s3.1 16 = true then
          z_let (z_u s3.2 16 s3.1.toNatClampNeg r6) fun τ8 =>
          some (.inl ((s3.1 + (1 : Int32)), τ8))
          else none
      ) ((0 : Int32), r2)).bind (fun b3 =>
        (z_loop (S := Int32 × zS) (β := zS) (fun s9 =>
            (f_G_cells_1 s9.2).bind fun r10 =>
            if r10 ≤ s9.1 then
              some (.inr s9.2)
            else
              if z_ib s9.1 16 = true then
              (f_Lw_has_7 (s9.2 16 s9.1.toNatClampNeg) s9.2).bind fun r13 =>
              z_join (T := zS) (fun t14 =>
                  some (.inl ((s9.1 + (1 : Int32)), t14))
                ) (fun j14 =>
                  if r13 = 0 then
                    j14 s9.2
                  else
                    if z_ib s9.1 16 = true then
                    if z_ib (s9.2 16 s9.1.toNatClampNeg) 5 = true then
                    if z_ib s9.1 16 = true then
                    z_let (z_u s9.2 2 s9.1.toNatClampNeg (s9.2 8 (s9.2 16 s9.1.toNatClampNeg).toNatClampNeg)) fun τ19 =>
                    if z_ib s9.1 16 = true then
                    if z_ib s9.1 16 = true then
                    z_let (z_u τ19 3 s9.1.toNatClampNeg (if (τ19 3 s9.1.toNatClampNeg) < (1 : Int32) then (1 : Int32) else (τ19 3 s9.1.toNatClampNeg))) fun τ22 =>
                    j14 τ22
                    else none
                    else none
                    else none
                    else none
                    else none
                )
              else none
          ) ((0 : Int32), b3)).bind (fun b9 =>
            some b9
          )
      )
/-- SeasonYard$Crops.wanted(II)I -/
noncomputable def f_Cr_wanted (a0 : Int32) (a1 : Int32) (σ : zS) : Option (Int32) :=
  (f_Y_isIn a1 (0 : Int32) (2 : Int32) σ).bind fun r1 =>
  if r1 = 0 then
    some (-1 : Int32)
  else
    (f_Y_isIn (((3 : Int32) * a0) + a1) (0 : Int32) ((15 : Int32) - (1 : Int32)) σ).bind fun r3 =>
    if r3 = 0 then
      some (-1 : Int32)
    else
      if z_ib (((3 : Int32) * a0) + a1) 15 = true then
      some ((z_sv.getD 0 []).getD (((3 : Int32) * a0) + a1).toNatClampNeg 0)
      else none
/-- SeasonYard$Crops.behind(III)I -/
noncomputable def f_Cr_behind (a0 : Int32) (a1 : Int32) (a2 : Int32) (σ : zS) : Option (Int32) :=
  (f_Cr_wanted a0 a1 σ).bind fun r1 =>
  if a2 = r1 then
    (f_Cr_wanted a0 (a1 + (1 : Int32)) σ).bind fun r3 =>
    if r3 = (-1 : Int32) then
      some (3 : Int32)
    else
      some (a1 + (1 : Int32))
  else
    z_join (T := Unit) (fun t5 =>
        some a1
      ) (fun j5 =>
        if a1 = 0 then
          j5 ()
        else
          (f_Cr_wanted a0 (a1 - (1 : Int32)) σ).bind fun r7 =>
          if a2 = r7 then
            j5 ()
          else
            some (4 : Int32)
      )
/-- SeasonYard$Garden.growCrop(I)V -/
noncomputable def f_G_growCrop_1 (a1 : Int32) (σ : zS) : Option (zS) :=
  if z_ib a1 16 = true then
  if z_ib a1 16 = true then
  if z_ib a1 16 = true then
  (f_Cr_behind (σ 4 a1.toNatClampNeg) (σ 5 a1.toNatClampNeg) (σ 2 a1.toNatClampNeg) σ).bind fun r4 =>
  if r4 = (3 : Int32) then
    if z_ib a1 16 = true then
    (f_Y_isIn (σ 6 a1.toNatClampNeg) (0 : Int32) (2 : Int32) σ).bind fun r7 =>
    z_join (T := zS) (fun t8 =>
        z_let (z_u t8 1 13 ((t8 1 13) ||| ((1 : Int32) <<< (a1 &&& 31)))) fun τ9 =>
        (f_G_setCrop_1 a1 (-4 : Int32) τ9).bind fun r10 =>
        some r10
      ) (fun j8 =>
        if r7 = 0 then
          j8 σ
        else
          if z_ib a1 16 = true then
          if z_ib (σ 6 a1.toNatClampNeg) 3 = true then
          if z_ib (σ 6 a1.toNatClampNeg) 3 = true then
          z_let (z_u σ 14 (σ 6 a1.toNatClampNeg).toNatClampNeg ((σ 14 (σ 6 a1.toNatClampNeg).toNatClampNeg) + (1 : Int32))) fun τ15 =>
          j8 τ15
          else none
          else none
          else none
      )
    else none
  else
    if r4 = (4 : Int32) then
      z_let (z_u σ 1 12 ((σ 1 12) + (1 : Int32))) fun τ17 =>
      (f_G_setCrop_1 a1 (-4 : Int32) τ17).bind fun r18 =>
      some r18
    else
      if z_ib a1 16 = true then
      z_let (z_u σ 5 a1.toNatClampNeg r4) fun τ20 =>
      some τ20
      else none
  else none
  else none
  else none
/-- SeasonYard$Garden.growCrops()V -/
noncomputable def f_G_growCrops_1  (σ : zS) : Option (zS) :=
  z_let (z_u σ 1 13 (0 : Int32)) fun τ1 =>
  (z_loop (S := Int32 × zS) (β := zS) (fun s2 =>
      (f_G_cells_1 s2.2).bind fun r3 =>
      if r3 ≤ s2.1 then
        some (.inr s2.2)
      else
        if z_ib s2.1 16 = true then
        z_join (T := zS) (fun t6 =>
            some (.inl ((s2.1 + (1 : Int32)), t6))
          ) (fun j6 =>
            if (s2.2 4 s2.1.toNatClampNeg) = (-4 : Int32) then
              j6 s2.2
            else
              (f_G_growCrop_1 s2.1 s2.2).bind fun r8 =>
              j6 r8
          )
        else none
    ) ((0 : Int32), τ1)).bind (fun b2 =>
      some b2
    )
/-- SeasonYard$Garden.loseYards()V -/
noncomputable def f_G_loseYards_1  (σ : zS) : Option (zS) :=
  (z_loop (S := Int32 × zS) (β := zS) (fun s1 =>
      (f_G_cells_1 s1.2).bind fun r2 =>
      if r2 ≤ s1.1 then
        some (.inr s1.2)
      else
        if z_ib s1.1 16 = true then
        z_join (T := zS) (fun t5 =>
            some (.inl ((s1.1 + (1 : Int32)), t5))
          ) (fun j5 =>
            if (s1.2 3 s1.1.toNatClampNeg) ≤ (1 : Int32) then
              (f_G_setBare_1 s1.1 s1.2).bind fun r7 =>
              j5 r7
            else
              if z_ib s1.1 16 = true then
              if z_ib s1.1 16 = true then
              z_let (z_u s1.2 3 s1.1.toNatClampNeg ((s1.2 3 s1.1.toNatClampNeg) - (1 : Int32))) fun τ10 =>
              j5 τ10
              else none
              else none
          )
        else none
    ) ((0 : Int32), σ)).bind (fun b1 =>
      some b1
    )
/-- SeasonYard$Garden.goOn(I)V -/
noncomputable def f_G_goOn_1 (a1 : Int32) (σ : zS) : Option (zS) :=
  (z_loop (S := Int32 × zS) (β := zS) (fun s1 =>
      if a1 ≤ s1.1 then
        some (.inr s1.2)
      else
        (f_G_spread_1 s1.2).bind fun r3 =>
        (f_G_growCrops_1 r3).bind fun r4 =>
        (f_G_loseYards_1 r4).bind fun r5 =>
        z_let (z_u r5 1 10 ((r5 1 10) + (1 : Int32))) fun τ6 =>
        some (.inl ((s1.1 + (1 : Int32)), τ6))
    ) ((0 : Int32), σ)).bind (fun b1 =>
      some b1
    )
/-- SeasonYard.week(I)I -/
noncomputable def f_Y_week (a1 : Int32) (σ : zS) : Option (Int32 × zS) :=
  (f_Y_isIn a1 (0 : Int32) (60 : Int32) σ).bind fun r1 =>
  if r1 = 0 then
    some ((-1 : Int32), σ)
  else
    if ((σ 1 10) + a1) < (1000 : Int32) then
      (f_G_ripeOfAll_1 σ).bind fun r4 =>
      (f_G_goOn_1 a1 σ).bind fun r5 =>
      (f_G_ripeOfAll_1 r5).bind fun r6 =>
      some ((r6 - r4), r5)
    else
      some ((-3 : Int32), σ)
/-- SeasonYardModel.ripeOn(I)I -/
noncomputable def f_M_ripeOn (a1 : Int32) (σ : zS) : Option (Int32) :=
  if z_ib (a1 + (106 : Int32)) 550 = true then
  if z_ib ((a1 + (106 : Int32)) + (1 : Int32)) 550 = true then
  if z_ib ((a1 + (106 : Int32)) + (2 : Int32)) 550 = true then
  some (((σ 91 (a1 + (106 : Int32)).toNatClampNeg) + (σ 91 ((a1 + (106 : Int32)) + (1 : Int32)).toNatClampNeg)) + (σ 91 ((a1 + (106 : Int32)) + (2 : Int32)).toNatClampNeg))
  else none
  else none
  else none
/-- SeasonYardModel.isWalled(II)Z -/
noncomputable def f_M_isWalled (a1 : Int32) (a2 : Int32) (σ : zS) : Option (Int32) :=
  if z_ib (a1 + (80 : Int32)) 550 = true then
  if (((σ 91 (a1 + (80 : Int32)).toNatClampNeg) >>> (a2 &&& 31)) &&& (1 : Int32)) = (1 : Int32) then
    some (1 : Int32)
  else
    some (0 : Int32)
  else none
/-- SeasonYardModel.nextWith(III)I -/
noncomputable def f_M_nextWith (a1 : Int32) (a2 : Int32) (a3 : Int32) (σ : zS) : Option (Int32) :=
  z_join (T := Int32) (fun t1 =>
      if (σ 90 1) = 0 then none else
      z_join (T := Int32) (fun t3 =>
          if (σ 90 1) = 0 then none else
          z_join (T := Int32) (fun t5 =>
              if ((σ 90 1) * (σ 90 2)) ≤ (a2 + (σ 90 1)) then
                some t5
              else
                (f_M_isWalled a1 (((2 : Int32) * a2) + (1 : Int32)) σ).bind fun r7 =>
                if r7 = 0 then
                  (f_M_lies a1 (a2 + (σ 90 1)) σ).bind fun r9 =>
                  z_join (T := Int32 × Int32) (fun t10 =>
                      some (t10.2 + t10.1)
                    ) (fun j10 =>
                      if r9 = a3 then
                        j10 ((1 : Int32), t5)
                      else
                        j10 ((0 : Int32), t5)
                    )
                else
                  some t5
            ) (fun j5 =>
              if (σ 90 1) ≤ ((a2 - a2 / (σ 90 1) * (σ 90 1)) + (1 : Int32)) then
                j5 t3
              else
                (f_M_isWalled a1 ((2 : Int32) * a2) σ).bind fun r13 =>
                if r13 = 0 then
                  (f_M_lies a1 (a2 + (1 : Int32)) σ).bind fun r15 =>
                  z_join (T := Int32 × Int32) (fun t16 =>
                      j5 (t16.2 + t16.1)
                    ) (fun j16 =>
                      if r15 = a3 then
                        j16 ((1 : Int32), t3)
                      else
                        j16 ((0 : Int32), t3)
                    )
                else
                  j5 t3
            )
        ) (fun j3 =>
          if (a2 - a2 / (σ 90 1) * (σ 90 1)) ≤ 0 then
            j3 t1
          else
            (f_M_isWalled a1 ((2 : Int32) * (a2 - (1 : Int32))) σ).bind fun r19 =>
            if r19 = 0 then
              (f_M_lies a1 (a2 - (1 : Int32)) σ).bind fun r21 =>
              z_join (T := Int32 × Int32) (fun t22 =>
                  j3 (t22.2 + t22.1)
                ) (fun j22 =>
                  if r21 = a3 then
                    j22 ((1 : Int32), t1)
                  else
                    j22 ((0 : Int32), t1)
                )
            else
              j3 t1
        )
    ) (fun j1 =>
      if a2 < (σ 90 1) then
        j1 (0 : Int32)
      else
        (f_M_isWalled a1 (((2 : Int32) * (a2 - (σ 90 1))) + (1 : Int32)) σ).bind fun r25 =>
        if r25 = 0 then
          (f_M_lies a1 (a2 - (σ 90 1)) σ).bind fun r27 =>
          z_join (T := Int32 × Int32) (fun t28 =>
              j1 (t28.2 + t28.1)
            ) (fun j28 =>
              if r27 = a3 then
                j28 ((1 : Int32), (0 : Int32))
              else
                j28 ((0 : Int32), (0 : Int32))
            )
        else
          j1 (0 : Int32)
    )
/-- SeasonYardModel.fitting(II)I -/
noncomputable def f_M_fitting (a1 : Int32) (a2 : Int32) (σ : zS) : Option (Int32) :=
  (z_loop (S := Int32) (β := (Unit) ⊕ (Int32)) (fun s1 =>
      if (σ 90 3) ≤ s1 then
        some (.inr (.inl ()))
      else
        z_let ((a1 + (81 : Int32)) + ((3 : Int32) * s1)) fun v3 =>
        (f_M_lies a1 a2 σ).bind fun r4 =>
        if z_ib (v3 + (1 : Int32)) 550 = true then
        z_join (T := Unit) (fun t6 =>
            some (.inl (s1 + (1 : Int32)))
          ) (fun j6 =>
            if r4 = (σ 91 (v3 + (1 : Int32)).toNatClampNeg) then
              if z_ib v3 550 = true then
              (f_M_nextWith a1 a2 (σ 91 v3.toNatClampNeg) σ).bind fun r9 =>
              if z_ib (v3 + (2 : Int32)) 550 = true then
              if r9 < (σ 91 (v3 + (2 : Int32)).toNatClampNeg) then
                j6 ()
              else
                some (.inr (.inr s1))
              else none
              else none
            else
              j6 ()
          )
        else none
    ) (0 : Int32)).bind (fun bb => match bb with
    | .inl b1 =>
      some (-4 : Int32)
    | .inr g => some g)
/-- SeasonYardModel.stageBy(III)I -/
noncomputable def f_M_stageBy (a1 : Int32) (a2 : Int32) (a3 : Int32) (σ : zS) : Option (Int32) :=
  if z_ib (((3 : Int32) * a1) + a2) 15 = true then
  z_let (σ 92 (((3 : Int32) * a1) + a2).toNatClampNeg) fun v2 =>
  if a3 = v2 then
    z_join (T := Int32) (fun t4 =>
        if t4 = 0 then
          some (3 : Int32)
        else
          some (a2 + (1 : Int32))
      ) (fun j4 =>
        z_join (T := Unit) (fun t6 =>
            j4 (0 : Int32)
          ) (fun j6 =>
            if (2 : Int32) ≤ a2 then
              j6 ()
            else
              if z_ib ((((3 : Int32) * a1) + a2) + (1 : Int32)) 15 = true then
              if (σ 92 ((((3 : Int32) * a1) + a2) + (1 : Int32)).toNatClampNeg) = (-4 : Int32) then
                j6 ()
              else
                j4 (1 : Int32)
              else none
          )
      )
  else
    z_join (T := Unit) (fun t10 =>
        some a2
      ) (fun j10 =>
        if a2 = 0 then
          j10 ()
        else
          if z_ib ((((3 : Int32) * a1) + a2) - (1 : Int32)) 15 = true then
          if a3 = (σ 92 ((((3 : Int32) * a1) + a2) - (1 : Int32)).toNatClampNeg) then
            j10 ()
          else
            some (4 : Int32)
          else none
      )
  else none
/-- SeasonYardModel.grows(II)V -/
noncomputable def f_M_grows (a1 : Int32) (a2 : Int32) (σ : zS) : Option (zS) :=
  (f_M_cropIn a1 a2 σ).bind fun r1 =>
  if r1 = (-4 : Int32) then
    some σ
  else
    if z_ib ((a1 + ((5 : Int32) * a2)) + (3 : Int32)) 550 = true then
    (f_M_lies a1 a2 σ).bind fun r4 =>
    (f_M_stageBy r1 (σ 91 ((a1 + ((5 : Int32) * a2)) + (3 : Int32)).toNatClampNeg) r4 σ).bind fun r5 =>
    z_join (T := Int32 × Int32) (fun t6 =>
        if z_ib t6.2 550 = true then
        z_let (z_u σ 91 t6.2.toNatClampNeg t6.1) fun τ8 =>
        z_join (T := Int32 × Int32) (fun t9 =>
            if z_ib t9.2 550 = true then
            z_let (z_u τ8 91 t9.2.toNatClampNeg t9.1) fun τ11 =>
            if z_ib ((a1 + ((5 : Int32) * a2)) + (4 : Int32)) 550 = true then
            if z_ib ((a1 + (106 : Int32)) + (τ11 91 ((a1 + ((5 : Int32) * a2)) + (4 : Int32)).toNatClampNeg)) 550 = true then
            z_join (T := Int32 × Int32 × Int32) (fun t14 =>
                if z_ib t14.2.2 550 = true then
                z_let (z_u τ11 91 t14.2.2.toNatClampNeg (t14.2.1 + t14.1)) fun τ16 =>
                if z_ib (a1 + (109 : Int32)) 550 = true then
                z_join (T := Int32 × Int32 × Int32) (fun t18 =>
                    if z_ib t18.2.2 550 = true then
                    z_let (z_u τ16 91 t18.2.2.toNatClampNeg (t18.2.1 + t18.1)) fun τ20 =>
                    some τ20
                    else none
                  ) (fun j18 =>
                    if r5 = (4 : Int32) then
                      j18 ((1 : Int32), (τ16 91 (a1 + (109 : Int32)).toNatClampNeg), (a1 + (109 : Int32)))
                    else
                      j18 ((0 : Int32), (τ16 91 (a1 + (109 : Int32)).toNatClampNeg), (a1 + (109 : Int32)))
                  )
                else none
                else none
              ) (fun j14 =>
                if r5 = (3 : Int32) then
                  j14 ((1 : Int32), (τ11 91 ((a1 + (106 : Int32)) + (τ11 91 ((a1 + ((5 : Int32) * a2)) + (4 : Int32)).toNatClampNeg)).toNatClampNeg), ((a1 + (106 : Int32)) + (τ11 91 ((a1 + ((5 : Int32) * a2)) + (4 : Int32)).toNatClampNeg)))
                else
                  j14 ((0 : Int32), (τ11 91 ((a1 + (106 : Int32)) + (τ11 91 ((a1 + ((5 : Int32) * a2)) + (4 : Int32)).toNatClampNeg)).toNatClampNeg), ((a1 + (106 : Int32)) + (τ11 91 ((a1 + ((5 : Int32) * a2)) + (4 : Int32)).toNatClampNeg)))
              )
            else none
            else none
            else none
          ) (fun j9 =>
            if r5 ≤ (2 : Int32) then
              j9 ((r1 + (1 : Int32)), ((a1 + ((5 : Int32) * a2)) + (2 : Int32)))
            else
              j9 ((0 : Int32), ((a1 + ((5 : Int32) * a2)) + (2 : Int32)))
          )
        else none
      ) (fun j6 =>
        if r5 ≤ (2 : Int32) then
          j6 (r5, ((a1 + ((5 : Int32) * a2)) + (3 : Int32)))
        else
          j6 ((0 : Int32), ((a1 + ((5 : Int32) * a2)) + (3 : Int32)))
      )
    else none
/-- SeasonYardModel.weeks(II)V -/
noncomputable def f_M_weeks (a1 : Int32) (a2 : Int32) (σ : zS) : Option (zS) :=
  (z_loop (S := Int32 × zS) (β := zS) (fun s1 =>
      if a2 ≤ s1.1 then
        some (.inr s1.2)
      else
        (z_loop (S := Int32 × zS) (β := zS) (fun s3 =>
            if ((s3.2 90 1) * (s3.2 90 2)) ≤ s3.1 then
              some (.inr s3.2)
            else
              (f_M_fitting a1 s3.1 s3.2).bind fun r5 =>
              if z_ib s3.1 16 = true then
              z_let (z_u s3.2 98 s3.1.toNatClampNeg r5) fun τ7 =>
              some (.inl ((s3.1 + (1 : Int32)), τ7))
              else none
          ) ((0 : Int32), s1.2)).bind (fun b3 =>
            (z_loop (S := Int32 × zS) (β := zS) (fun s8 =>
                if ((s8.2 90 1) * (s8.2 90 2)) ≤ s8.1 then
                  some (.inr s8.2)
                else
                  if z_ib ((a1 + ((5 : Int32) * s8.1)) + (1 : Int32)) 550 = true then
                  z_let (s8.2 91 ((a1 + ((5 : Int32) * s8.1)) + (1 : Int32)).toNatClampNeg) fun v11 =>
                  if z_ib s8.1 16 = true then
                  z_join (T := zS) (fun t13 =>
                      (f_M_grows a1 s8.1 t13).bind fun r14 =>
                      if z_ib ((a1 + ((5 : Int32) * s8.1)) + (1 : Int32)) 550 = true then
                      if z_ib ((a1 + ((5 : Int32) * s8.1)) + (1 : Int32)) 550 = true then
                      z_join (T := Int32 × Int32 × Int32) (fun t17 =>
                          if z_ib t17.2.2 550 = true then
                          z_let (z_u r14 91 t17.2.2.toNatClampNeg (t17.2.1 - t17.1)) fun τ19 =>
                          some (.inl ((s8.1 + (1 : Int32)), τ19))
                          else none
                        ) (fun j17 =>
                          if (r14 91 ((a1 + ((5 : Int32) * s8.1)) + (1 : Int32)).toNatClampNeg) ≤ 0 then
                            j17 ((0 : Int32), (r14 91 ((a1 + ((5 : Int32) * s8.1)) + (1 : Int32)).toNatClampNeg), ((a1 + ((5 : Int32) * s8.1)) + (1 : Int32)))
                          else
                            j17 ((1 : Int32), (r14 91 ((a1 + ((5 : Int32) * s8.1)) + (1 : Int32)).toNatClampNeg), ((a1 + ((5 : Int32) * s8.1)) + (1 : Int32)))
                        )
                      else none
                      else none
                    ) (fun j13 =>
                      if (s8.2 98 s8.1.toNatClampNeg) = (-4 : Int32) then
                        j13 s8.2
                      else
                        if z_ib s8.1 16 = true then
                        if z_ib ((a1 + (81 : Int32)) + ((3 : Int32) * (s8.2 98 s8.1.toNatClampNeg))) 550 = true then
                        z_join (T := Int32 × Int32 × Int32 × Int32) (fun t24 =>
                            (f_M_lays t24.2.2.2 t24.2.2.1 t24.2.1 t24.1 s8.2).bind fun r25 =>
                            j13 r25
                          ) (fun j24 =>
                            if v11 = 0 then
                              j24 ((1 : Int32), (s8.2 91 ((a1 + (81 : Int32)) + ((3 : Int32) * (s8.2 98 s8.1.toNatClampNeg))).toNatClampNeg), s8.1, a1)
                            else
                              j24 (v11, (s8.2 91 ((a1 + (81 : Int32)) + ((3 : Int32) * (s8.2 98 s8.1.toNatClampNeg))).toNatClampNeg), s8.1, a1)
                          )
                        else none
                        else none
                    )
                  else none
                  else none
              ) ((0 : Int32), b3)).bind (fun b8 =>
                if z_ib (a1 + (105 : Int32)) 550 = true then
                if z_ib (a1 + (105 : Int32)) 550 = true then
                z_let (z_u b8 91 (a1 + (105 : Int32)).toNatClampNeg ((b8 91 (a1 + (105 : Int32)).toNatClampNeg) + (1 : Int32))) fun τ29 =>
                some (.inl ((s1.1 + (1 : Int32)), τ29))
                else none
                else none
              )
          )
    ) ((0 : Int32), σ)).bind (fun b1 =>
      some b1
    )
/-- SeasonYardModel.week(I)I -/
noncomputable def f_M_week (a1 : Int32) (σ : zS) : Option (Int32 × zS) :=
  (f_M_in (a1.toInt64) (0 : Int64) (60 : Int64) σ).bind fun r1 =>
  if r1 = 0 then
    some ((-1 : Int32), σ)
  else
    if ((σ 91 (105 : Int32).toNatClampNeg) + a1) ≤ (999 : Int32) then
      (f_M_ripeOn (0 : Int32) σ).bind fun r4 =>
      (f_M_weeks (0 : Int32) a1 σ).bind fun r5 =>
      (f_M_ripeOn (0 : Int32) r5).bind fun r6 =>
      some ((r6 - r4), r5)
    else
      some ((-3 : Int32), σ)
/-- SeasonYard$Laws.copyFrom(LSeasonYard$Laws;)V -/
noncomputable def f_Lw_copyFrom_23_7  (σ : zS) : Option (zS) :=
  z_let (z_cp σ 8 24 0 0 5) fun τ1 =>
  z_let (z_cp τ1 9 25 0 0 5) fun τ2 =>
  z_let (z_cp τ2 10 26 0 0 5) fun τ3 =>
  z_let (z_u τ3 23 3 (τ3 7 3)) fun τ4 =>
  some τ4
/-- SeasonYard$Shop.copyFrom(LSeasonYard$Shop;)V -/
noncomputable def f_Sp_copyFrom_27_11  (σ : zS) : Option (zS) :=
  z_let (z_cp σ 12 28 0 0 4) fun τ1 =>
  z_let (z_cp τ1 13 29 0 0 4) fun τ2 =>
  z_let (z_u τ2 27 2 (τ2 11 2)) fun τ3 =>
  some τ3
/-- SeasonYard$Garden.copyFrom(LSeasonYard$Garden;)V -/
noncomputable def f_G_copyFrom_17_1  (σ : zS) : Option (zS) :=
  z_let (z_u σ 17 0 (σ 1 0)) fun τ1 =>
  z_let (z_u τ1 17 1 (τ1 1 1)) fun τ2 =>
  z_let (z_cp τ2 2 18 0 0 16) fun τ3 =>
  z_let (z_cp τ3 3 19 0 0 16) fun τ4 =>
  z_let (z_cp τ4 4 20 0 0 16) fun τ5 =>
  z_let (z_cp τ5 5 21 0 0 16) fun τ6 =>
  z_let (z_cp τ6 6 22 0 0 16) fun τ7 =>
  z_let (z_u τ7 17 7 (τ7 1 7)) fun τ8 =>
  (f_Lw_copyFrom_23_7 τ8).bind fun r9 =>
  (f_Sp_copyFrom_27_11 r9).bind fun r10 =>
  z_let (z_u r10 17 10 (r10 1 10)) fun τ11 =>
  z_let (z_cp τ11 14 30 0 0 3) fun τ12 =>
  z_let (z_u τ12 17 12 (τ12 1 12)) fun τ13 =>
  z_let (z_u τ13 17 13 (τ13 1 13)) fun τ14 =>
  some τ14
/-- java/util/Arrays.fill([II)V -/
noncomputable def f_JA_fill_31 (a1 : Int32) (σ : zS) : Option (zS) :=
  (z_loop (S := Int32 × zS) (β := zS) (fun s1 =>
      if (5 : Int32) ≤ s1.1 then
        some (.inr s1.2)
      else
        if z_ib s1.1 5 = true then
        z_let (z_u s1.2 31 s1.1.toNatClampNeg a1) fun τ4 =>
        some (.inl ((s1.1 + (1 : Int32)), τ4))
        else none
    ) ((0 : Int32), σ)).bind (fun b1 =>
      some b1
    )
/-- SeasonYard$Garden.notePlaces()V -/
noncomputable def f_G_notePlaces_17  (σ : zS) : Option (zS) :=
  (f_JA_fill_31 (0 : Int32) σ).bind fun r1 =>
  (z_loop (S := Int32 × zS) (β := zS) (fun s2 =>
      (f_G_cells_17 s2.2).bind fun r3 =>
      if r3 ≤ s2.1 then
        some (.inr s2.2)
      else
        if z_ib s2.1 16 = true then
        (f_Y_isIn (s2.2 18 s2.1.toNatClampNeg) (0 : Int32) (4 : Int32) s2.2).bind fun r6 =>
        z_join (T := zS) (fun t7 =>
            some (.inl ((s2.1 + (1 : Int32)), t7))
          ) (fun j7 =>
            if r6 = 0 then
              j7 s2.2
            else
              if z_ib s2.1 16 = true then
              if z_ib (s2.2 18 s2.1.toNatClampNeg) 5 = true then
              if z_ib (s2.2 18 s2.1.toNatClampNeg) 5 = true then
              z_let (z_u s2.2 31 (s2.2 18 s2.1.toNatClampNeg).toNatClampNeg ((s2.2 31 (s2.2 18 s2.1.toNatClampNeg).toNatClampNeg) ||| ((1 : Int32) <<< (s2.1 &&& 31)))) fun τ12 =>
              j7 τ12
              else none
              else none
              else none
          )
        else none
    ) ((0 : Int32), r1)).bind (fun b2 =>
      some b2
    )
/-- SeasonYard$Garden.isOpen(I)Z -/
noncomputable def f_G_isOpen_17 (a1 : Int32) (σ : zS) : Option (Int32) :=
  if ((((σ 17 7).toUInt32 >>> (a1.toUInt32 &&& Int32.toUInt32 31)).toInt32) &&& (1 : Int32)) = 0 then
    some (1 : Int32)
  else
    some (0 : Int32)
/-- SeasonYard$Garden.nextTo(I)I -/
noncomputable def f_G_nextTo_17 (a1 : Int32) (σ : zS) : Option (Int32) :=
  (f_G_hasEast_17 a1 σ).bind fun r1 =>
  z_join (T := Int32) (fun t2 =>
      z_join (T := Int32) (fun t3 =>
          (f_G_hasCell_17 (a1 + (σ 17 0)) σ).bind fun r4 =>
          z_join (T := Int32) (fun t5 =>
              (f_G_hasCell_17 (a1 - (σ 17 0)) σ).bind fun r6 =>
              if r6 = 0 then
                some t5
              else
                (f_G_isOpen_17 (((2 : Int32) * (a1 - (σ 17 0))) + (1 : Int32)) σ).bind fun r8 =>
                if r8 = 0 then
                  some t5
                else
                  z_let (t5 ||| ((1 : Int32) <<< ((a1 - (σ 17 0)) &&& 31))) fun v10 =>
                  some v10
            ) (fun j5 =>
              if r4 = 0 then
                j5 t3
              else
                (f_G_isOpen_17 (((2 : Int32) * a1) + (1 : Int32)) σ).bind fun r12 =>
                if r12 = 0 then
                  j5 t3
                else
                  z_let (t3 ||| ((1 : Int32) <<< ((a1 + (σ 17 0)) &&& 31))) fun v14 =>
                  j5 v14
            )
        ) (fun j3 =>
          if a1 ≤ 0 then
            j3 t2
          else
            (f_G_hasEast_17 (a1 - (1 : Int32)) σ).bind fun r16 =>
            if r16 = 0 then
              j3 t2
            else
              (f_G_isOpen_17 (((2 : Int32) * a1) - (2 : Int32)) σ).bind fun r18 =>
              if r18 = 0 then
                j3 t2
              else
                z_let (t2 ||| ((1 : Int32) <<< ((a1 - (1 : Int32)) &&& 31))) fun v20 =>
                j3 v20
        )
    ) (fun j2 =>
      if r1 = 0 then
        j2 (0 : Int32)
      else
        (f_G_isOpen_17 ((2 : Int32) * a1) σ).bind fun r22 =>
        if r22 = 0 then
          j2 (0 : Int32)
        else
          z_let ((0 : Int32) ||| ((1 : Int32) <<< ((a1 + (1 : Int32)) &&& 31))) fun v24 =>
          j2 v24
    )
/-- SeasonYard$Garden.fits(II)Z -/
noncomputable def f_G_fits_17 (a1 : Int32) (a2 : Int32) (σ : zS) : Option (Int32) :=
  if z_ib a1 5 = true then
  if z_ib a1 5 = true then
  (f_Y_isSeason (σ 24 a1.toNatClampNeg) σ).bind fun r3 =>
  if r3 = 0 then
    some (0 : Int32)
  else
    (f_Y_isIn (σ 25 a1.toNatClampNeg) (0 : Int32) (4 : Int32) σ).bind fun r5 =>
    if r5 = 0 then
      some (0 : Int32)
    else
      if z_ib (σ 25 a1.toNatClampNeg) 5 = true then
      if ((((σ 31 (σ 25 a1.toNatClampNeg).toNatClampNeg).toUInt32 >>> (a2.toUInt32 &&& Int32.toUInt32 31)).toInt32) &&& (1 : Int32)) = 0 then
        some (0 : Int32)
      else
        if z_ib (σ 24 a1.toNatClampNeg) 5 = true then
        (f_G_nextTo_17 a2 σ).bind fun r10 =>
        (f_JI_bitCount ((σ 31 (σ 24 a1.toNatClampNeg).toNatClampNeg) &&& r10) σ).bind fun r11 =>
        if z_ib a1 5 = true then
        if r11 < (σ 26 a1.toNatClampNeg) then
          some (0 : Int32)
        else
          some (1 : Int32)
        else none
        else none
      else none
  else none
  else none
/-- SeasonYard$Garden.firstFitting(I)I -/
noncomputable def f_G_firstFitting_17 (a1 : Int32) (σ : zS) : Option (Int32) :=
  (z_loop (S := Int32) (β := (Unit) ⊕ (Int32)) (fun s1 =>
      if (σ 23 3) ≤ s1 then
        some (.inr (.inl ()))
      else
        if (5 : Int32) ≤ s1 then
          some (.inr (.inl ()))
        else
          (f_G_fits_17 s1 a1 σ).bind fun r4 =>
          if r4 = 0 then
            some (.inl (s1 + (1 : Int32)))
          else
            some (.inr (.inr s1))
    ) (0 : Int32)).bind (fun bb => match bb with
    | .inl b1 =>
      some (-4 : Int32)
    | .inr g => some g)
/-- SeasonYard$Laws.has(I)Z -/
noncomputable def f_Lw_has_23 (a1 : Int32) (σ : zS) : Option (Int32) :=
  if a1 < 0 then
    some (0 : Int32)
  else
    if (σ 23 3) ≤ a1 then
      some (0 : Int32)
    else
      if (5 : Int32) ≤ a1 then
        some (0 : Int32)
      else
        some (1 : Int32)
/-- SeasonYard$Garden.spread()V -/
noncomputable def f_G_spread_17  (σ : zS) : Option (zS) :=
  if (σ 23 3) = 0 then
    some σ
  else
    (f_G_notePlaces_17 σ).bind fun r2 =>
    (z_loop (S := Int32 × zS) (β := zS) (fun s3 =>
        (f_G_cells_17 s3.2).bind fun r4 =>
        if r4 ≤ s3.1 then
          some (.inr s3.2)
        else
          (f_G_firstFitting_17 s3.1 s3.2).bind fun r6 =>
          if z_ib s3.1 16 = true then
          z_let (z_u s3.2 32 s3.1.toNatClampNeg r6) fun τ8 =>
          some (.inl ((s3.1 + (1 : Int32)), τ8))
          else none
      ) ((0 : Int32), r2)).bind (fun b3 =>
        (z_loop (S := Int32 × zS) (β := zS) (fun s9 =>
            (f_G_cells_17 s9.2).bind fun r10 =>
            if r10 ≤ s9.1 then
              some (.inr s9.2)
            else
              if z_ib s9.1 16 = true then
              (f_Lw_has_23 (s9.2 32 s9.1.toNatClampNeg) s9.2).bind fun r13 =>
              z_join (T := zS) (fun t14 =>
                  some (.inl ((s9.1 + (1 : Int32)), t14))
                ) (fun j14 =>
                  if r13 = 0 then
                    j14 s9.2
                  else
                    if z_ib s9.1 16 = true then
                    if z_ib (s9.2 32 s9.1.toNatClampNeg) 5 = true then
                    if z_ib s9.1 16 = true then
                    z_let (z_u s9.2 18 s9.1.toNatClampNeg (s9.2 24 (s9.2 32 s9.1.toNatClampNeg).toNatClampNeg)) fun τ19 =>
                    if z_ib s9.1 16 = true then
                    if z_ib s9.1 16 = true then
                    z_let (z_u τ19 19 s9.1.toNatClampNeg (if (τ19 19 s9.1.toNatClampNeg) < (1 : Int32) then (1 : Int32) else (τ19 19 s9.1.toNatClampNeg))) fun τ22 =>
                    j14 τ22
                    else none
                    else none
                    else none
                    else none
                    else none
                )
              else none
          ) ((0 : Int32), b3)).bind (fun b9 =>
            some b9
          )
      )
/-- SeasonYard$Garden.growCrop(I)V -/
noncomputable def f_G_growCrop_17 (a1 : Int32) (σ : zS) : Option (zS) :=
  if z_ib a1 16 = true then
  if z_ib a1 16 = true then
  if z_ib a1 16 = true then
  (f_Cr_behind (σ 20 a1.toNatClampNeg) (σ 21 a1.toNatClampNeg) (σ 18 a1.toNatClampNeg) σ).bind fun r4 =>
  if r4 = (3 : Int32) then
    if z_ib a1 16 = true then
    (f_Y_isIn (σ 22 a1.toNatClampNeg) (0 : Int32) (2 : Int32) σ).bind fun r7 =>
    z_join (T := zS) (fun t8 =>
        z_let (z_u t8 17 13 ((t8 17 13) ||| ((1 : Int32) <<< (a1 &&& 31)))) fun τ9 =>
        (f_G_setCrop_17 a1 (-4 : Int32) τ9).bind fun r10 =>
        some r10
      ) (fun j8 =>
        if r7 = 0 then
          j8 σ
        else
          if z_ib a1 16 = true then
          if z_ib (σ 22 a1.toNatClampNeg) 3 = true then
          if z_ib (σ 22 a1.toNatClampNeg) 3 = true then
          z_let (z_u σ 30 (σ 22 a1.toNatClampNeg).toNatClampNeg ((σ 30 (σ 22 a1.toNatClampNeg).toNatClampNeg) + (1 : Int32))) fun τ15 =>
          j8 τ15
          else none
          else none
          else none
      )
    else none
  else
    if r4 = (4 : Int32) then
      z_let (z_u σ 17 12 ((σ 17 12) + (1 : Int32))) fun τ17 =>
      (f_G_setCrop_17 a1 (-4 : Int32) τ17).bind fun r18 =>
      some r18
    else
      if z_ib a1 16 = true then
      z_let (z_u σ 21 a1.toNatClampNeg r4) fun τ20 =>
      some τ20
      else none
  else none
  else none
  else none
/-- SeasonYard$Garden.growCrops()V -/
noncomputable def f_G_growCrops_17  (σ : zS) : Option (zS) :=
  z_let (z_u σ 17 13 (0 : Int32)) fun τ1 =>
  (z_loop (S := Int32 × zS) (β := zS) (fun s2 =>
      (f_G_cells_17 s2.2).bind fun r3 =>
      if r3 ≤ s2.1 then
        some (.inr s2.2)
      else
        if z_ib s2.1 16 = true then
        z_join (T := zS) (fun t6 =>
            some (.inl ((s2.1 + (1 : Int32)), t6))
          ) (fun j6 =>
            if (s2.2 20 s2.1.toNatClampNeg) = (-4 : Int32) then
              j6 s2.2
            else
              (f_G_growCrop_17 s2.1 s2.2).bind fun r8 =>
              j6 r8
          )
        else none
    ) ((0 : Int32), τ1)).bind (fun b2 =>
      some b2
    )
/-- SeasonYard$Garden.setBare(I)V -/
noncomputable def f_G_setBare_17 (a1 : Int32) (σ : zS) : Option (zS) :=
  (f_G_set_17 a1 (4 : Int32) (0 : Int32) σ).bind fun r1 =>
  some r1
/-- SeasonYard$Garden.loseYards()V -/
noncomputable def f_G_loseYards_17  (σ : zS) : Option (zS) :=
  (z_loop (S := Int32 × zS) (β := zS) (fun s1 =>
      (f_G_cells_17 s1.2).bind fun r2 =>
      if r2 ≤ s1.1 then
        some (.inr s1.2)
      else
        if z_ib s1.1 16 = true then
        z_join (T := zS) (fun t5 =>
            some (.inl ((s1.1 + (1 : Int32)), t5))
          ) (fun j5 =>
            if (s1.2 19 s1.1.toNatClampNeg) ≤ (1 : Int32) then
              (f_G_setBare_17 s1.1 s1.2).bind fun r7 =>
              j5 r7
            else
              if z_ib s1.1 16 = true then
              if z_ib s1.1 16 = true then
              z_let (z_u s1.2 19 s1.1.toNatClampNeg ((s1.2 19 s1.1.toNatClampNeg) - (1 : Int32))) fun τ10 =>
              j5 τ10
              else none
              else none
          )
        else none
    ) ((0 : Int32), σ)).bind (fun b1 =>
      some b1
    )
/-- SeasonYard$Garden.goOn(I)V -/
noncomputable def f_G_goOn_17 (a1 : Int32) (σ : zS) : Option (zS) :=
  (z_loop (S := Int32 × zS) (β := zS) (fun s1 =>
      if a1 ≤ s1.1 then
        some (.inr s1.2)
      else
        (f_G_spread_17 s1.2).bind fun r3 =>
        (f_G_growCrops_17 r3).bind fun r4 =>
        (f_G_loseYards_17 r4).bind fun r5 =>
        z_let (z_u r5 17 10 ((r5 17 10) + (1 : Int32))) fun τ6 =>
        some (.inl ((s1.1 + (1 : Int32)), τ6))
    ) ((0 : Int32), σ)).bind (fun b1 =>
      some b1
    )
/-- SeasonYard$Garden.facet(II)I -/
noncomputable def f_G_facet_17 (a1 : Int32) (a2 : Int32) (σ : zS) : Option (Int32) :=
  (f_G_hasCell_17 a1 σ).bind fun r1 =>
  if r1 = 0 then
    some (-1 : Int32)
  else
    if a2 = (0 : Int32) then
      if z_ib a1 16 = true then
      some (σ 18 a1.toNatClampNeg)
      else none
    else
    if a2 = (1 : Int32) then
      if z_ib a1 16 = true then
      some (σ 19 a1.toNatClampNeg)
      else none
    else
    if a2 = (2 : Int32) then
      if z_ib a1 16 = true then
      some (σ 20 a1.toNatClampNeg)
      else none
    else
    if a2 = (3 : Int32) then
      if z_ib a1 16 = true then
      some (σ 21 a1.toNatClampNeg)
      else none
    else
    if a2 = (4 : Int32) then
      if z_ib a1 16 = true then
      some (σ 22 a1.toNatClampNeg)
      else none
    else
      some (-1 : Int32)
/-- SeasonYard.ahead(III)I -/
noncomputable def f_Y_ahead (a1 : Int32) (a2 : Int32) (a3 : Int32) (σ : zS) : Option (Int32 × zS) :=
  (f_Y_isIn a2 (0 : Int32) (60 : Int32) σ).bind fun r1 =>
  if r1 = 0 then
    some ((-1 : Int32), σ)
  else
    (f_G_copyFrom_17_1 σ).bind fun r3 =>
    (f_G_goOn_17 a2 r3).bind fun r4 =>
    (f_G_facet_17 a1 a3 r4).bind fun r5 =>
    some (r5, r4)
/-- SeasonYardModel.copies(II)V -/
noncomputable def f_M_copies (a1 : Int32) (a2 : Int32) (σ : zS) : Option (zS) :=
  (z_loop (S := Int32 × zS) (β := zS) (fun s1 =>
      if (110 : Int32) ≤ s1.1 then
        some (.inr s1.2)
      else
        if z_ib (a1 + s1.1) 550 = true then
        if z_ib (a2 + s1.1) 550 = true then
        z_let (z_u s1.2 91 (a2 + s1.1).toNatClampNeg (s1.2 91 (a1 + s1.1).toNatClampNeg)) fun τ5 =>
        some (.inl ((s1.1 + (1 : Int32)), τ5))
        else none
        else none
    ) ((0 : Int32), σ)).bind (fun b1 =>
      some b1
    )
/-- SeasonYardModel.ahead(III)I -/
noncomputable def f_M_ahead (a1 : Int32) (a2 : Int32) (a3 : Int32) (σ : zS) : Option (Int32 × zS) :=
  (f_M_isCell a1 σ).bind fun r1 =>
  if r1 = 0 then
    some ((-1 : Int32), σ)
  else
    (f_M_in (a2.toInt64) (0 : Int64) (60 : Int64) σ).bind fun r3 =>
    if r3 = 0 then
      some ((-1 : Int32), σ)
    else
      (f_M_in (a3.toInt64) (0 : Int64) (4 : Int64) σ).bind fun r5 =>
      if r5 = 0 then
        some ((-1 : Int32), σ)
      else
        (f_M_copies (0 : Int32) (440 : Int32) σ).bind fun r7 =>
        (f_M_weeks (440 : Int32) a2 r7).bind fun r8 =>
        (f_M_asked (440 : Int32) a1 a3 r8).bind fun r9 =>
        some (r9, r8)
/-- SeasonYard$Garden.fittedCells()I -/
noncomputable def f_G_fittedCells_1  (σ : zS) : Option (Int32 × zS) :=
  (f_G_notePlaces_1 σ).bind fun r1 =>
  (z_loop (S := Int32 × Int32) (β := Int32) (fun s2 =>
      (f_G_cells_1 r1).bind fun r3 =>
      if r3 ≤ s2.2 then
        some (.inr s2.1)
      else
        (f_G_firstFitting_1 s2.2 r1).bind fun r5 =>
        z_join (T := Int32) (fun t6 =>
            some (.inl (t6, (s2.2 + (1 : Int32))))
          ) (fun j6 =>
            if r5 = (-4 : Int32) then
              j6 s2.1
            else
              z_let (s2.1 ||| ((1 : Int32) <<< (s2.2 &&& 31))) fun v8 =>
              j6 v8
          )
    ) ((0 : Int32), (0 : Int32))).bind (fun b2 =>
      some (b2, r1)
    )
/-- SeasonYard.spreads()I -/
noncomputable def f_Y_spreads  (σ : zS) : Option (Int32 × zS) :=
  (f_G_fittedCells_1 σ).bind fun r1 =>
  some (r1.1, r1.2)
/-- SeasonYardModel.spreads()I -/
noncomputable def f_M_spreads  (σ : zS) : Option (Int32) :=
  (z_loop (S := Int32 × Int32) (β := Int32) (fun s1 =>
      if ((σ 90 1) * (σ 90 2)) ≤ s1.2 then
        some (.inr s1.1)
      else
        (f_M_fitting (0 : Int32) s1.2 σ).bind fun r3 =>
        z_join (T := Int32 × Int32) (fun t4 =>
            some (.inl ((t4.2 ||| t4.1), (s1.2 + (1 : Int32))))
          ) (fun j4 =>
            if r3 = (-4 : Int32) then
              j4 ((0 : Int32), s1.1)
            else
              j4 (((1 : Int32) <<< (s1.2 &&& 31)), s1.1)
          )
    ) ((0 : Int32), (0 : Int32))).bind (fun b1 =>
      some b1
    )
/-- SeasonYard$Garden.ripeOfAll()I -/
noncomputable def f_G_ripeOfAll_17  (σ : zS) : Option (Int32) :=
  (z_loop (S := Int32 × Int32) (β := Int32) (fun s1 =>
      if (3 : Int32) ≤ s1.2 then
        some (.inr s1.1)
      else
        if z_ib s1.2 3 = true then
        z_let (s1.1 + (σ 30 s1.2.toNatClampNeg)) fun v4 =>
        some (.inl (v4, (s1.2 + (1 : Int32))))
        else none
    ) ((0 : Int32), (0 : Int32))).bind (fun b1 =>
      some b1
    )
/-- SeasonYard.ripeInTrial()I -/
noncomputable def f_Y_ripeInTrial  (σ : zS) : Option (Int32) :=
  (f_G_ripeOfAll_17 σ).bind fun r1 =>
  (f_G_ripeOfAll_1 σ).bind fun r2 =>
  some (r1 - r2)
/-- SeasonYard.spoiledInTrial()I -/
noncomputable def f_Y_spoiledInTrial  (σ : zS) : Option (Int32) :=
  some ((σ 17 12) - (σ 1 12))
/-- SeasonYard.comes(II)I -/
noncomputable def f_Y_comes (a1 : Int32) (a2 : Int32) (σ : zS) : Option (Int32 × zS) :=
  (f_Y_isIn a1 (0 : Int32) (60 : Int32) σ).bind fun r1 =>
  if r1 = 0 then
    some ((-1 : Int32), σ)
  else
    (f_Y_isIn a2 (0 : Int32) (1 : Int32) σ).bind fun r3 =>
    if r3 = 0 then
      some ((-1 : Int32), σ)
    else
      (f_G_copyFrom_17_1 σ).bind fun r5 =>
      (f_G_goOn_17 a1 r5).bind fun r6 =>
      if a2 = 0 then
        (f_Y_ripeInTrial r6).bind fun r8 =>
        some (r8, r6)
      else
        (f_Y_spoiledInTrial r6).bind fun r9 =>
        some (r9, r6)
/-- SeasonYardModel.triedBy(II)I -/
noncomputable def f_M_triedBy (a1 : Int32) (a2 : Int32) (σ : zS) : Option (Int32 × zS) :=
  (f_M_weeks (440 : Int32) a1 σ).bind fun r1 =>
  if a2 = 0 then
    (f_M_ripeOn (440 : Int32) r1).bind fun r3 =>
    (f_M_ripeOn (0 : Int32) r1).bind fun r4 =>
    some ((r3 - r4), r1)
  else
    some (((r1 91 (549 : Int32).toNatClampNeg) - (r1 91 (109 : Int32).toNatClampNeg)), r1)
/-- SeasonYardModel.comes(II)I -/
noncomputable def f_M_comes (a1 : Int32) (a2 : Int32) (σ : zS) : Option (Int32 × zS) :=
  (f_M_in (a1.toInt64) (0 : Int64) (60 : Int64) σ).bind fun r1 =>
  if r1 = 0 then
    some ((-1 : Int32), σ)
  else
    (f_M_in (a2.toInt64) (0 : Int64) (1 : Int64) σ).bind fun r3 =>
    if r3 = 0 then
      some ((-1 : Int32), σ)
    else
      (f_M_copies (0 : Int32) (440 : Int32) σ).bind fun r5 =>
      (f_M_triedBy a1 a2 r5).bind fun r6 =>
      some (r6.1, r6.2)
/-- SeasonYard.when(I)I -/
noncomputable def f_Y_when (a1 : Int32) (σ : zS) : Option (Int32 × zS) :=
  (f_G_hasCell_1 a1 σ).bind fun r1 =>
  if r1 = 0 then
    some ((-1 : Int32), σ)
  else
    if z_ib a1 16 = true then
    if (σ 4 a1.toNatClampNeg) = (-4 : Int32) then
      some ((-2 : Int32), σ)
    else
      (f_G_copyFrom_17_1 σ).bind fun r5 =>
      (z_loop (S := Int32 × zS) (β := (zS) ⊕ (Int32 × zS)) (fun s6 =>
          if (60 : Int32) < s6.1 then
            some (.inr (.inl s6.2))
          else
            if z_ib a1 16 = true then
            if (s6.2 20 a1.toNatClampNeg) = (-4 : Int32) then
              some (.inr (.inl s6.2))
            else
              (f_G_goOn_17 (1 : Int32) s6.2).bind fun r10 =>
              if ((((r10 17 13).toUInt32 >>> (a1.toUInt32 &&& Int32.toUInt32 31)).toInt32) &&& (1 : Int32)) = 0 then
                some (.inl ((s6.1 + (1 : Int32)), r10))
              else
                some (.inr (.inr (s6.1, r10)))
            else none
        ) ((1 : Int32), r5)).bind (fun bb => match bb with
        | .inl b6 =>
          some ((-4 : Int32), b6)
        | .inr g => some g)
    else none
/-- SeasonYardModel.when(I)I -/
noncomputable def f_M_when (a1 : Int32) (σ : zS) : Option (Int32 × zS) :=
  (f_M_isCell a1 σ).bind fun r1 =>
  if r1 = 0 then
    some ((-1 : Int32), σ)
  else
    (f_M_cropIn (0 : Int32) a1 σ).bind fun r3 =>
    if r3 = (-4 : Int32) then
      some ((-2 : Int32), σ)
    else
      (f_M_copies (0 : Int32) (440 : Int32) σ).bind fun r5 =>
      (z_loop (S := Int32 × zS) (β := (zS) ⊕ (Int32 × zS)) (fun s6 =>
          if (60 : Int32) < s6.1 then
            some (.inr (.inl s6.2))
          else
            if z_ib (((440 : Int32) + ((5 : Int32) * a1)) + (4 : Int32)) 550 = true then
            z_let ((546 : Int32) + (s6.2 91 (((440 : Int32) + ((5 : Int32) * a1)) + (4 : Int32)).toNatClampNeg)) fun v9 =>
            (z_loop (S := Int32 × zS) (β := zS) (fun s10 =>
                if ((s10.2 90 1) * (s10.2 90 2)) ≤ s10.1 then
                  some (.inr s10.2)
                else
                  z_join (T := zS) (fun t12 =>
                      some (.inl ((s10.1 + (1 : Int32)), t12))
                    ) (fun j12 =>
                      if s10.1 = a1 then
                        j12 s10.2
                      else
                        if z_ib (((440 : Int32) + ((5 : Int32) * s10.1)) + (2 : Int32)) 550 = true then
                        z_let (z_u s10.2 91 (((440 : Int32) + ((5 : Int32) * s10.1)) + (2 : Int32)).toNatClampNeg (0 : Int32)) fun τ15 =>
                        j12 τ15
                        else none
                    )
              ) ((0 : Int32), s6.2)).bind (fun b10 =>
                if z_ib v9 550 = true then
                (f_M_weeks (440 : Int32) (1 : Int32) b10).bind fun r17 =>
                if z_ib v9 550 = true then
                if (r17 91 v9.toNatClampNeg) ≤ (b10 91 v9.toNatClampNeg) then
                  some (.inl ((s6.1 + (1 : Int32)), r17))
                else
                  some (.inr (.inr (s6.1, r17)))
                else none
                else none
              )
            else none
        ) ((1 : Int32), r5)).bind (fun bb => match bb with
        | .inl b6 =>
          some ((-4 : Int32), b6)
        | .inr g => some g)
/-- SeasonYard$Garden.liesAs(LSeasonYard$Garden;)Z -/
noncomputable def f_G_liesAs_17_1  (σ : zS) : Option (Int32) :=
  (z_loop (S := Int32) (β := (Unit) ⊕ (Int32)) (fun s1 =>
      (f_G_cells_17 σ).bind fun r2 =>
      if r2 ≤ s1 then
        some (.inr (.inl ()))
      else
        if z_ib s1 16 = true then
        if z_ib s1 16 = true then
        if (σ 18 s1.toNatClampNeg) = (σ 2 s1.toNatClampNeg) then
          if z_ib s1 16 = true then
          if z_ib s1 16 = true then
          if (σ 19 s1.toNatClampNeg) = (σ 3 s1.toNatClampNeg) then
            some (.inl (s1 + (1 : Int32)))
          else
            some (.inr (.inr (0 : Int32)))
          else none
          else none
        else
          some (.inr (.inr (0 : Int32)))
        else none
        else none
    ) (0 : Int32)).bind (fun bb => match bb with
    | .inl b1 =>
      some (1 : Int32)
    | .inr g => some g)
/-- SeasonYard.again()I -/
noncomputable def f_Y_again  (σ : zS) : Option (Int32 × zS) :=
  (f_G_copyFrom_17_1 σ).bind fun r1 =>
  (z_loop (S := Int32 × zS) (β := (zS) ⊕ (Int32 × zS)) (fun s2 =>
      if (60 : Int32) < s2.1 then
        some (.inr (.inl s2.2))
      else
        (f_G_goOn_17 (1 : Int32) s2.2).bind fun r4 =>
        (f_G_liesAs_17_1 r4).bind fun r5 =>
        if r5 = 0 then
          some (.inl ((s2.1 + (1 : Int32)), r4))
        else
          some (.inr (.inr (s2.1, r4)))
    ) ((1 : Int32), r1)).bind (fun bb => match bb with
    | .inl b2 =>
      some ((-4 : Int32), b2)
    | .inr g => some g)
/-- SeasonYardModel.liesAsNow(I)Z -/
noncomputable def f_M_liesAsNow (a1 : Int32) (σ : zS) : Option (Int32) :=
  (z_loop (S := Int32 × Int32) (β := Int32) (fun s1 =>
      if ((σ 90 1) * (σ 90 2)) ≤ s1.2 then
        some (.inr s1.1)
      else
        z_join (T := Int32) (fun t3 =>
            some (.inl (t3, (s1.2 + (1 : Int32))))
          ) (fun j3 =>
            z_join (T := Unit) (fun t4 =>
                j3 (0 : Int32)
              ) (fun j4 =>
                if s1.1 = 0 then
                  j4 ()
                else
                  (f_M_lies a1 s1.2 σ).bind fun r6 =>
                  (f_M_lies (0 : Int32) s1.2 σ).bind fun r7 =>
                  if r6 = r7 then
                    if z_ib ((a1 + ((5 : Int32) * s1.2)) + (1 : Int32)) 550 = true then
                    if z_ib (((5 : Int32) * s1.2) + (1 : Int32)) 550 = true then
                    if (σ 91 ((a1 + ((5 : Int32) * s1.2)) + (1 : Int32)).toNatClampNeg) = (σ 91 (((5 : Int32) * s1.2) + (1 : Int32)).toNatClampNeg) then
                      j3 (1 : Int32)
                    else
                      j4 ()
                    else none
                    else none
                  else
                    j4 ()
              )
          )
    ) ((1 : Int32), (0 : Int32))).bind (fun b1 =>
      if b1 = 0 ∨ b1 = 1 then
      some b1
      else none
    )
/-- SeasonYardModel.again()I -/
noncomputable def f_M_again  (σ : zS) : Option (Int32 × zS) :=
  (f_M_copies (0 : Int32) (440 : Int32) σ).bind fun r1 =>
  (z_loop (S := Int32 × zS) (β := (zS) ⊕ (Int32 × zS)) (fun s2 =>
      if (60 : Int32) < s2.1 then
        some (.inr (.inl s2.2))
      else
        (f_M_weeks (440 : Int32) (1 : Int32) s2.2).bind fun r4 =>
        (f_M_liesAsNow (440 : Int32) r4).bind fun r5 =>
        if r5 = 0 then
          some (.inl ((s2.1 + (1 : Int32)), r4))
        else
          some (.inr (.inr (s2.1, r4)))
    ) ((1 : Int32), r1)).bind (fun bb => match bb with
    | .inl b2 =>
      some ((-4 : Int32), b2)
    | .inr g => some g)
/-- java/util/Arrays.fill([II)V -/
noncomputable def f_JA_fill_42 (a1 : Int32) (σ : zS) : Option (zS) :=
  (z_loop (S := Int32 × zS) (β := zS) (fun s1 =>
      if (777 : Int32) ≤ s1.1 then
        some (.inr s1.2)
      else
        if z_ib s1.1 777 = true then
        z_let (z_u s1.2 42 s1.1.toNatClampNeg a1) fun τ4 =>
        some (.inl ((s1.1 + (1 : Int32)), τ4))
        else none
    ) ((0 : Int32), σ)).bind (fun b1 =>
      some b1
    )
/-- SeasonYard$Planner.seasonOf(I)I -/
noncomputable def f_Pl_seasonOf (a0 : Int32) (σ : zS) : Option (Int32) :=
  if a0 = 0 then
    some (4 : Int32)
  else
    some ((a0 - (1 : Int32)) / (9 : Int32))
/-- SeasonYard$Planner.yardsOf(I)I -/
noncomputable def f_Pl_yardsOf (a0 : Int32) (σ : zS) : Option (Int32) :=
  if a0 = 0 then
    some (0 : Int32)
  else
    some (((a0 - (1 : Int32)) - (a0 - (1 : Int32)) / (9 : Int32) * (9 : Int32)) + (1 : Int32))
/-- SeasonYard$Planner.costOf(I)I -/
noncomputable def f_Pl_costOf_41 (a1 : Int32) (σ : zS) : Option (Int32) :=
  (f_Pl_seasonOf a1 σ).bind fun r1 =>
  (f_Y_isSeason r1 σ).bind fun r2 =>
  if r2 = 0 then
    some (0 : Int32)
  else
    if z_ib r1 4 = true then
    (f_Pl_yardsOf a1 σ).bind fun r5 =>
    some ((σ 43 r1.toNatClampNeg) * r5)
    else none
/-- SeasonYard$Planner.lessOne(I)I -/
noncomputable def f_Pl_lessOne (a0 : Int32) (σ : zS) : Option (Int32) :=
  (f_Pl_yardsOf a0 σ).bind fun r1 =>
  if r1 ≤ (1 : Int32) then
    some (0 : Int32)
  else
    some (a0 - (1 : Int32))
/-- SeasonYard$Planner.placeOf(III)I -/
noncomputable def f_Pl_placeOf (a0 : Int32) (a1 : Int32) (a2 : Int32) (σ : zS) : Option (Int32) :=
  some (((a0 * (111 : Int32)) + (a1 * (3 : Int32))) + a2)
/-- SeasonYard$Planner.leastAt(III)I -/
noncomputable def f_Pl_leastAt_41 (a1 : Int32) (a2 : Int32) (a3 : Int32) (σ : zS) : Option (Int32) :=
  (f_Pl_placeOf a1 a2 a3 σ).bind fun r1 =>
  (f_Y_isIn r1 (0 : Int32) ((777 : Int32) - (1 : Int32)) σ).bind fun r2 =>
  if r2 = 0 then
    some (1000000 : Int32)
  else
    if z_ib r1 777 = true then
    some (σ 42 r1.toNatClampNeg)
    else none
/-- SeasonYard$Planner.leastBehind(III)I -/
noncomputable def f_Pl_leastBehind_41 (a1 : Int32) (a2 : Int32) (a3 : Int32) (σ : zS) : Option (Int32) :=
  (f_Pl_seasonOf a2 σ).bind fun r1 =>
  (f_Cr_behind (σ 41 2) a3 r1 σ).bind fun r2 =>
  if r2 = (3 : Int32) then
    some (0 : Int32)
  else
    if r2 = (4 : Int32) then
      some (1000000 : Int32)
    else
      (f_Pl_lessOne a2 σ).bind fun r5 =>
      (f_Pl_leastAt_41 (a1 + (1 : Int32)) r5 r2 σ).bind fun r6 =>
      some r6
/-- SeasonYard$Planner.weighStage(II)V -/
noncomputable def f_Pl_weighStage_41 (a1 : Int32) (a2 : Int32) (σ : zS) : Option (zS) :=
  (z_loop (S := Int32 × Int32) (β := Int32) (fun s1 =>
      if (37 : Int32) ≤ s1.2 then
        some (.inr s1.1)
      else
        (f_Pl_costOf_41 s1.2 σ).bind fun r3 =>
        (f_Pl_leastBehind_41 a1 s1.2 a2 σ).bind fun r4 =>
        z_let (if (r3 + r4) < s1.1 then (r3 + r4) else s1.1) fun v5 =>
        some (.inl (v5, (s1.2 + (1 : Int32))))
    ) ((1000000 : Int32), (1 : Int32))).bind (fun b1 =>
      (z_loop (S := Int32 × zS) (β := zS) (fun s6 =>
          if (37 : Int32) ≤ s6.1 then
            some (.inr s6.2)
          else
            (f_Pl_placeOf a1 s6.1 a2 s6.2).bind fun r8 =>
            (f_Y_isIn r8 (0 : Int32) ((777 : Int32) - (1 : Int32)) s6.2).bind fun r9 =>
            z_join (T := zS) (fun t10 =>
                some (.inl ((s6.1 + (1 : Int32)), t10))
              ) (fun j10 =>
                if r9 = 0 then
                  j10 s6.2
                else
                  (f_Pl_leastBehind_41 a1 s6.1 a2 s6.2).bind fun r12 =>
                  if z_ib r8 777 = true then
                  z_let (z_u s6.2 42 r8.toNatClampNeg (if r12 < b1 then r12 else b1)) fun τ14 =>
                  j10 τ14
                  else none
              )
        ) ((0 : Int32), σ)).bind (fun b6 =>
          some b6
        )
    )
/-- SeasonYard$Planner.lyingOf(II)I -/
noncomputable def f_Pl_lyingOf (a0 : Int32) (a1 : Int32) (σ : zS) : Option (Int32) :=
  some (((9 : Int32) * a0) + a1)
/-- SeasonYard$Planner.weigh(LSeasonYard$Garden;II)V -/
noncomputable def f_Pl_weigh_41_1 (a2 : Int32) (a3 : Int32) (σ : zS) : Option (zS) :=
  z_let (z_cp σ 13 43 0 0 4) fun τ1 =>
  if z_ib a2 16 = true then
  z_let (z_u τ1 41 2 (τ1 4 a2.toNatClampNeg)) fun τ3 =>
  if z_ib a2 16 = true then
  z_let (z_u τ3 41 4 (τ3 5 a2.toNatClampNeg)) fun τ5 =>
  if z_ib a2 16 = true then
  z_join (T := Int32) (fun t7 =>
      z_let (z_u τ5 41 3 t7) fun τ8 =>
      (f_JA_fill_42 (1000000 : Int32) τ8).bind fun r9 =>
      (z_loop (S := Int32 × zS) (β := zS) (fun s10 =>
          if s10.1 < 0 then
            some (.inr s10.2)
          else
            (z_loop (S := Int32 × zS) (β := zS) (fun s12 =>
                if (3 : Int32) ≤ s12.1 then
                  some (.inr s12.2)
                else
                  (f_Pl_weighStage_41 s10.1 s12.1 s12.2).bind fun r14 =>
                  some (.inl ((s12.1 + (1 : Int32)), r14))
              ) ((0 : Int32), s10.2)).bind (fun b12 =>
                some (.inl ((s10.1 + (-1 : Int32)), b12))
              )
        ) ((a3 - (1 : Int32)), r9)).bind (fun b10 =>
          (f_Pl_leastAt_41 (0 : Int32) (b10 41 3) (b10 41 4) b10).bind fun r15 =>
          z_let (z_u b10 41 5 r15) fun τ16 =>
          some τ16
        )
    ) (fun j7 =>
      if (τ5 2 a2.toNatClampNeg) = (4 : Int32) then
        j7 (0 : Int32)
      else
        if z_ib a2 16 = true then
        if z_ib a2 16 = true then
        (f_Pl_lyingOf (τ5 2 a2.toNatClampNeg) (τ5 3 a2.toNatClampNeg) τ5).bind fun r20 =>
        j7 r20
        else none
        else none
    )
  else none
  else none
  else none
/-- SeasonYard$Planner.bestAt(III)I -/
noncomputable def f_Pl_bestAt_41 (a1 : Int32) (a2 : Int32) (a3 : Int32) (σ : zS) : Option (Int32) :=
  (f_Pl_leastAt_41 a1 a2 a3 σ).bind fun r1 =>
  (f_Pl_leastBehind_41 a1 a2 a3 σ).bind fun r2 =>
  if r2 = r1 then
    some (0 : Int32)
  else
    (z_loop (S := Int32) (β := (Unit) ⊕ (Int32)) (fun s4 =>
        if (37 : Int32) ≤ s4 then
          some (.inr (.inl ()))
        else
          (f_Pl_costOf_41 s4 σ).bind fun r6 =>
          (f_Pl_leastBehind_41 a1 s4 a3 σ).bind fun r7 =>
          if (r6 + r7) = r1 then
            some (.inr (.inr s4))
          else
            some (.inl (s4 + (1 : Int32)))
      ) (1 : Int32)).bind (fun bb => match bb with
      | .inl b4 =>
        some (0 : Int32)
      | .inr g => some g)
/-- SeasonYard$Planner.laidAheadOf(I)I -/
noncomputable def f_Pl_laidAheadOf_41 (a1 : Int32) (σ : zS) : Option (Int32) :=
  (z_loop (S := Int32 × Int32 × Int32) (β := (Int32) ⊕ (Int32)) (fun s1 =>
      if a1 < s1.2.2 then
        some (.inr (.inr (0 : Int32)))
      else
        if (3 : Int32) ≤ s1.2.1 then
          some (.inr (.inr (0 : Int32)))
        else
          (f_Pl_bestAt_41 s1.2.2 s1.1 s1.2.1 σ).bind fun r4 =>
          if s1.2.2 = a1 then
            some (.inr (.inl r4))
          else
            z_join (T := Int32) (fun t6 =>
                (f_Pl_seasonOf t6 σ).bind fun r7 =>
                (f_Cr_behind (σ 41 2) s1.2.1 r7 σ).bind fun r8 =>
                (f_Pl_lessOne t6 σ).bind fun r9 =>
                some (.inl (r9, r8, (s1.2.2 + (1 : Int32))))
              ) (fun j6 =>
                if r4 = 0 then
                  j6 s1.1
                else
                  j6 r4
              )
    ) ((σ 41 3), (σ 41 4), (0 : Int32))).bind (fun bb => match bb with
    | .inl b1 =>
      if b1 = 0 then
        some (0 : Int32)
      else
        (f_Pl_seasonOf b1 σ).bind fun r12 =>
        (f_Pl_yardsOf b1 σ).bind fun r13 =>
        some (((10 : Int32) * (r12 + (1 : Int32))) + r13)
    | .inr g => some g)
/-- SeasonYard.plan(III)I -/
noncomputable def f_Y_plan (a1 : Int32) (a2 : Int32) (a3 : Int32) (σ : zS) : Option (Int32 × zS) :=
  (f_G_hasCell_1 a1 σ).bind fun r1 =>
  if r1 = 0 then
    some ((-1 : Int32), σ)
  else
    (f_Y_isIn a2 (1 : Int32) (6 : Int32) σ).bind fun r3 =>
    if r3 = 0 then
      some ((-1 : Int32), σ)
    else
      z_join (T := Unit) (fun t5 =>
          if z_ib a1 16 = true then
          if (σ 4 a1.toNatClampNeg) = (-4 : Int32) then
            some ((-2 : Int32), σ)
          else
            (f_Pl_weigh_41_1 a1 a2 σ).bind fun r8 =>
            if (r8 41 5) < (1000000 : Int32) then
              if a3 = 0 then
                some ((r8 41 5), r8)
              else
                (f_Pl_laidAheadOf_41 (a3 - (10 : Int32)) r8).bind fun r11 =>
                some (r11, r8)
            else
              some ((-4 : Int32), r8)
          else none
        ) (fun j5 =>
          if a3 = 0 then
            j5 ()
          else
            (f_Y_isIn a3 (10 : Int32) ((9 : Int32) + a2) σ).bind fun r13 =>
            if r13 = 0 then
              some ((-1 : Int32), σ)
            else
              j5 ()
        )
/-- SeasonYardModel.isChoice(I)Z -/
noncomputable def f_M_isChoice (a0 : Int32) (σ : zS) : Option (Int32) :=
  z_join (T := Unit) (fun t1 =>
      some (1 : Int32)
    ) (fun j1 =>
      if a0 = 0 then
        j1 ()
      else
        (f_M_in (a0.toInt64) (11 : Int64) (49 : Int64) σ).bind fun r3 =>
        if r3 = 0 then
          some (0 : Int32)
        else
          if (a0 - a0 / (10 : Int32) * (10 : Int32)) ≤ 0 then
            some (0 : Int32)
          else
            j1 ()
    )
/-- SeasonYardModel.at(IIII)I -/
noncomputable def f_M_at (a0 : Int32) (a1 : Int32) (a2 : Int32) (a3 : Int32) (σ : zS) : Option (Int32) :=
  z_join (T := Int32 × Int32 × Int32) (fun t1 =>
      some (((t1.2.2 + (t1.2.1 * t1.1)) + ((3 : Int32) * a2)) + a3)
    ) (fun j1 =>
      if a2 = 0 then
        j1 ((4 : Int32), (30 : Int32), ((150 : Int32) * a0))
      else
        j1 (a1, (30 : Int32), ((150 : Int32) * a0))
    )
/-- SeasonYardModel.costBy(IIIIIII)I -/
noncomputable def f_M_costBy (a1 : Int32) (a2 : Int32) (a3 : Int32) (a4 : Int32) (a5 : Int32) (a6 : Int32) (a7 : Int32) (σ : zS) : Option (Int32) :=
  z_join (T := Int32) (fun t1 =>
      z_join (T := Int32) (fun t2 =>
          z_join (T := Int32) (fun t3 =>
              z_join (T := Int32 × Int32 × Int32) (fun t4 =>
                  (f_M_stageBy t4.2.2 t4.2.1 t4.1 σ).bind fun r5 =>
                  if r5 = (3 : Int32) then
                    some t3
                  else
                    z_join (T := Unit) (fun t7 =>
                        some (100000 : Int32)
                      ) (fun j7 =>
                        if r5 = (4 : Int32) then
                          j7 ()
                        else
                          if (a2 + (1 : Int32)) = a3 then
                            j7 ()
                          else
                            z_join (T := Int32 × Int32 × Int32 × Int32) (fun t10 =>
                                (f_M_at t10.2.2.1 t10.2.1 t10.1 r5 σ).bind fun r11 =>
                                if z_ib r11 1050 = true then
                                some (t10.2.2.2 + (σ 99 r11.toNatClampNeg))
                                else none
                              ) (fun j10 =>
                                if t2 = 0 then
                                  j10 ((0 : Int32), t1, (a2 + (1 : Int32)), t3)
                                else
                                  j10 ((t2 - (1 : Int32)), t1, (a2 + (1 : Int32)), t3)
                              )
                      )
                ) (fun j4 =>
                  if t2 = 0 then
                    j4 ((4 : Int32), a6, a1)
                  else
                    j4 (t1, a6, a1)
                )
            ) (fun j3 =>
              if a7 = 0 then
                j3 (0 : Int32)
              else
                if z_ib (((96 : Int32) + ((2 : Int32) * t1)) + (1 : Int32)) 550 = true then
                j3 (t2 * ((σ 91 (((96 : Int32) + ((2 : Int32) * t1)) + (1 : Int32)).toNatClampNeg) + (1 : Int32)))
                else none
            )
        ) (fun j2 =>
          if a7 = 0 then
            j2 a5
          else
            j2 (a7 - a7 / (10 : Int32) * (10 : Int32))
        )
    ) (fun j1 =>
      if a7 = 0 then
        j1 a4
      else
        j1 ((a7 / (10 : Int32)) - (1 : Int32))
    )
/-- SeasonYardModel.layCosts(II)V -/
noncomputable def f_M_layCosts (a1 : Int32) (a2 : Int32) (σ : zS) : Option (zS) :=
  (z_loop (S := Int32 × zS) (β := zS) (fun s1 =>
      if s1.1 < 0 then
        some (.inr s1.2)
      else
        (z_loop (S := Int32 × zS) (β := zS) (fun s3 =>
            if (150 : Int32) ≤ s3.1 then
              some (.inr s3.2)
            else
              z_let ((s3.1 - s3.1 / (30 : Int32) * (30 : Int32)) / (3 : Int32)) fun v5 =>
              (z_loop (S := Int32 × Int32) (β := Int32) (fun s6 =>
                  if (50 : Int32) ≤ s6.2 then
                    some (.inr s6.1)
                  else
                    z_join (T := Int32) (fun t8 =>
                        z_join (T := Int32 × Int32) (fun t9 =>
                            if t9.2 = t9.1 then
                              (f_M_isChoice s6.2 s3.2).bind fun r11 =>
                              z_join (T := Int32) (fun t12 =>
                                  z_join (T := Int32) (fun t13 =>
                                      some (.inl (t13, (s6.2 + (1 : Int32))))
                                    ) (fun j13 =>
                                      if s6.1 ≤ t12 then
                                        j13 s6.1
                                      else
                                        j13 t12
                                    )
                                ) (fun j12 =>
                                  if r11 = 0 then
                                    j12 (100000 : Int32)
                                  else
                                    (f_M_costBy a1 s1.1 a2 (s3.1 / (30 : Int32)) v5 (s3.1 - s3.1 / (3 : Int32) * (3 : Int32)) s6.2 s3.2).bind fun r16 =>
                                    j12 r16
                                )
                            else
                              some (.inr s6.1)
                          ) (fun j9 =>
                            if v5 ≤ 0 then
                              j9 ((0 : Int32), t8)
                            else
                              j9 ((1 : Int32), t8)
                          )
                      ) (fun j8 =>
                        if (4 : Int32) ≤ (s3.1 / (30 : Int32)) then
                          j8 (0 : Int32)
                        else
                          j8 (1 : Int32)
                      )
                ) ((100000 : Int32), (0 : Int32))).bind (fun b6 =>
                  if z_ib (((150 : Int32) * s1.1) + s3.1) 1050 = true then
                  z_let (z_u s3.2 99 (((150 : Int32) * s1.1) + s3.1).toNatClampNeg b6) fun τ20 =>
                  some (.inl ((s3.1 + (1 : Int32)), τ20))
                  else none
                )
          ) ((0 : Int32), s1.2)).bind (fun b3 =>
            some (.inl ((s1.1 + (-1 : Int32)), b3))
          )
    ) ((a2 - (1 : Int32)), σ)).bind (fun b1 =>
      some b1
    )
/-- SeasonYardModel.plan(III)I -/
noncomputable def f_M_plan (a1 : Int32) (a2 : Int32) (a3 : Int32) (σ : zS) : Option (Int32 × zS) :=
  (f_M_isCell a1 σ).bind fun r1 =>
  if r1 = 0 then
    some ((-1 : Int32), σ)
  else
    (f_M_in (a2.toInt64) (1 : Int64) (6 : Int64) σ).bind fun r3 =>
    if r3 = 0 then
      some ((-1 : Int32), σ)
    else
      z_join (T := Unit) (fun t5 =>
          (f_M_cropIn (0 : Int32) a1 σ).bind fun r6 =>
          if r6 = (-4 : Int32) then
            some ((-2 : Int32), σ)
          else
            (f_M_layCosts r6 a2 σ).bind fun r8 =>
            if z_ib ((5 : Int32) * a1) 550 = true then
            z_let (r8 91 ((5 : Int32) * a1).toNatClampNeg) fun v10 =>
            if z_ib (((5 : Int32) * a1) + (1 : Int32)) 550 = true then
            z_let (r8 91 (((5 : Int32) * a1) + (1 : Int32)).toNatClampNeg) fun v12 =>
            if z_ib (((5 : Int32) * a1) + (3 : Int32)) 550 = true then
            z_let (r8 91 (((5 : Int32) * a1) + (3 : Int32)).toNatClampNeg) fun v14 =>
            (f_M_at (0 : Int32) v10 v12 v14 r8).bind fun r15 =>
            if z_ib r15 1050 = true then
            z_join (T := Unit) (fun t17 =>
                if (r8 99 r15.toNatClampNeg) < (100000 : Int32) then
                  some ((r8 99 r15.toNatClampNeg), r8)
                else
                  some ((-4 : Int32), r8)
              ) (fun j17 =>
                if (100000 : Int32) ≤ (r8 99 r15.toNatClampNeg) then
                  j17 ()
                else
                  if a3 = 0 then
                    j17 ()
                  else
                    (z_loop (S := Int32 × Int32 × Int32 × Int32 × Int32) (β := Int32) (fun s21 =>
                        if (a3 - (10 : Int32)) < s21.2.2.2.2 then
                          some (.inr s21.2.2.2.1)
                        else
                          (z_loop (S := Int32) (β := Int32) (fun s23 =>
                              if (3 : Int32) ≤ s21.2.2.1 then
                                some (.inr s23)
                              else
                                (f_M_isChoice s23 r8).bind fun r25 =>
                                z_join (T := Unit) (fun t26 =>
                                    some (.inl (s23 + (1 : Int32)))
                                  ) (fun j26 =>
                                    if r25 = 0 then
                                      j26 ()
                                    else
                                      (f_M_costBy r6 s21.2.2.2.2 a2 s21.1 s21.2.1 s21.2.2.1 s23 r8).bind fun r28 =>
                                      (f_M_at s21.2.2.2.2 s21.1 s21.2.1 s21.2.2.1 r8).bind fun r29 =>
                                      if z_ib r29 1050 = true then
                                      if r28 = (r8 99 r29.toNatClampNeg) then
                                        some (.inr s23)
                                      else
                                        j26 ()
                                      else none
                                  )
                            ) (0 : Int32)).bind (fun b23 =>
                              z_join (T := Int32 × Int32 × Int32) (fun t32 =>
                                  some (.inl (t32.1, t32.2.1, t32.2.2, b23, (s21.2.2.2.2 + (1 : Int32))))
                                ) (fun j32 =>
                                  if (3 : Int32) ≤ s21.2.2.1 then
                                    j32 (s21.1, s21.2.1, s21.2.2.1)
                                  else
                                    z_join (T := Int32) (fun t34 =>
                                        z_join (T := Int32) (fun t35 =>
                                            z_join (T := Int32 × Int32 × Int32) (fun t36 =>
                                                (f_M_stageBy t36.2.2 t36.2.1 t36.1 r8).bind fun r37 =>
                                                z_join (T := Int32 × Int32) (fun t38 =>
                                                    j32 (t34, (t38.2 - t38.1), r37)
                                                  ) (fun j38 =>
                                                    if t35 ≤ 0 then
                                                      j38 ((0 : Int32), t35)
                                                    else
                                                      j38 ((1 : Int32), t35)
                                                  )
                                              ) (fun j36 =>
                                                if t35 = 0 then
                                                  j36 ((4 : Int32), s21.2.2.1, r6)
                                                else
                                                  j36 (t34, s21.2.2.1, r6)
                                              )
                                          ) (fun j35 =>
                                            if b23 = 0 then
                                              j35 s21.2.1
                                            else
                                              j35 (b23 - b23 / (10 : Int32) * (10 : Int32))
                                          )
                                      ) (fun j34 =>
                                        if b23 = 0 then
                                          j34 s21.1
                                        else
                                          j34 ((b23 / (10 : Int32)) - (1 : Int32))
                                      )
                                )
                            )
                      ) (v10, v12, v14, (0 : Int32), (0 : Int32))).bind (fun b21 =>
                        some (b21, r8)
                      )
              )
            else none
            else none
            else none
            else none
        ) (fun j5 =>
          if a3 = 0 then
            j5 ()
          else
            (f_M_in (a3.toInt64) (10 : Int64) (((9 : Int32) + a2).toInt64) σ).bind fun r44 =>
            if r44 = 0 then
              some ((-1 : Int32), σ)
            else
              j5 ()
        )
/-- SeasonYard.most(II)I -/
noncomputable def f_Y_most (a1 : Int32) (a2 : Int32) (σ : zS) : Option (Int32 × zS) :=
  (f_Y_isIn a1 (1 : Int32) (12 : Int32) σ).bind fun r1 =>
  if r1 = 0 then
    some ((-1 : Int32), σ)
  else
    (f_Y_isIn a2 (0 : Int32) (1 : Int32) σ).bind fun r3 =>
    if r3 = 0 then
      some ((-1 : Int32), σ)
    else
      (z_loop (S := Int32 × Int32 × Int32 × zS) (β := Int32 × Int32 × zS) (fun s5 =>
          (f_G_cells_1 s5.2.2.2).bind fun r6 =>
          if r6 ≤ s5.2.2.1 then
            some (.inr (s5.1, s5.2.1, s5.2.2.2))
          else
            (z_loop (S := Int32 × Int32 × Int32 × zS) (β := Int32 × Int32 × zS) (fun s8 =>
                if (4 : Int32) ≤ s8.2.2.1 then
                  some (.inr (s8.1, s8.2.1, s8.2.2.2))
                else
                  (f_G_copyFrom_17_1 s8.2.2.2).bind fun r10 =>
                  (f_G_set_17 s5.2.2.1 s8.2.2.1 (3 : Int32) r10).bind fun r11 =>
                  (f_G_goOn_17 a1 r11).bind fun r12 =>
                  (f_Y_ripeInTrial r12).bind fun r13 =>
                  z_join (T := Int32 × Int32) (fun t14 =>
                      some (.inl (t14.1, t14.2, (s8.2.2.1 + (1 : Int32)), r12))
                    ) (fun j14 =>
                      if r13 ≤ s8.1 then
                        j14 (s8.1, s8.2.1)
                      else
                        (f_Y_ripeInTrial r12).bind fun r16 =>
                        z_let (((10 : Int32) * s5.2.2.1) + s8.2.2.1) fun v17 =>
                        j14 (r16, v17)
                    )
              ) (s5.1, s5.2.1, (0 : Int32), s5.2.2.2)).bind (fun b8 =>
                some (.inl (b8.1, b8.2.1, (s5.2.2.1 + (1 : Int32)), b8.2.2))
              )
        ) ((-1 : Int32), (0 : Int32), (0 : Int32), σ)).bind (fun b5 =>
          if a2 = 0 then
            some (b5.2.1, b5.2.2)
          else
            some (b5.1, b5.2.2)
        )
/-- SeasonYardModel.most(II)I -/
noncomputable def f_M_most (a1 : Int32) (a2 : Int32) (σ : zS) : Option (Int32 × zS) :=
  (f_M_in (a1.toInt64) (1 : Int64) (12 : Int64) σ).bind fun r1 =>
  if r1 = 0 then
    some ((-1 : Int32), σ)
  else
    (f_M_in (a2.toInt64) (0 : Int64) (1 : Int64) σ).bind fun r3 =>
    if r3 = 0 then
      some ((-1 : Int32), σ)
    else
      (z_loop (S := Int32 × Int32 × Int32 × zS) (β := Int32 × Int32 × zS) (fun s5 =>
          if (((10 : Int32) * (s5.2.2.2 90 1)) * (s5.2.2.2 90 2)) ≤ s5.2.2.1 then
            some (.inr (s5.1, s5.2.1, s5.2.2.2))
          else
            z_join (T := Int32 × Int32 × zS) (fun t7 =>
                some (.inl (t7.1, t7.2.1, (s5.2.2.1 + (1 : Int32)), t7.2.2))
              ) (fun j7 =>
                if (4 : Int32) ≤ (s5.2.2.1 - s5.2.2.1 / (10 : Int32) * (10 : Int32)) then
                  j7 (s5.1, s5.2.1, s5.2.2.2)
                else
                  (f_M_copies (0 : Int32) (440 : Int32) s5.2.2.2).bind fun r9 =>
                  (f_M_lays (440 : Int32) (s5.2.2.1 / (10 : Int32)) (s5.2.2.1 - s5.2.2.1 / (10 : Int32) * (10 : Int32)) (3 : Int32) r9).bind fun r10 =>
                  (f_M_triedBy a1 (0 : Int32) r10).bind fun r11 =>
                  z_join (T := Int32) (fun t12 =>
                      z_join (T := Int32) (fun t13 =>
                          j7 (t13, t12, r11.2)
                        ) (fun j13 =>
                          if r11.1 ≤ s5.1 then
                            j13 s5.1
                          else
                            j13 r11.1
                        )
                    ) (fun j12 =>
                      if r11.1 ≤ s5.1 then
                        j12 s5.2.1
                      else
                        j12 s5.2.2.1
                    )
              )
        ) ((-1 : Int32), (0 : Int32), (0 : Int32), σ)).bind (fun b5 =>
          if a2 = 0 then
            some (b5.2.1, b5.2.2)
          else
            some (b5.1, b5.2.2)
        )
/-- SeasonYard.fence(II)I -/
noncomputable def f_Y_fence (a1 : Int32) (a2 : Int32) (σ : zS) : Option (Int32 × zS) :=
  (f_Y_isIn a1 (1 : Int32) (12 : Int32) σ).bind fun r1 =>
  if r1 = 0 then
    some ((-1 : Int32), σ)
  else
    (f_Y_isIn a2 (0 : Int32) (1 : Int32) σ).bind fun r3 =>
    if r3 = 0 then
      some ((-1 : Int32), σ)
    else
      (f_G_copyFrom_17_1 σ).bind fun r5 =>
      (f_G_goOn_17 a1 r5).bind fun r6 =>
      (f_Y_spoiledInTrial r6).bind fun r7 =>
      (z_loop (S := Int32 × Int32 × Int32 × zS) (β := Int32 × Int32 × zS) (fun s8 =>
          if (32 : Int32) ≤ s8.2.2.1 then
            some (.inr (s8.1, s8.2.1, s8.2.2.2))
          else
            (f_G_hasEdge_1 s8.2.2.1 s8.2.2.2).bind fun r10 =>
            z_join (T := Int32 × Int32 × zS) (fun t11 =>
                some (.inl (t11.1, t11.2.1, (s8.2.2.1 + (1 : Int32)), t11.2.2))
              ) (fun j11 =>
                if r10 = 0 then
                  j11 (s8.1, s8.2.1, s8.2.2.2)
                else
                  (f_G_isOpen_1 s8.2.2.1 s8.2.2.2).bind fun r13 =>
                  if r13 = 0 then
                    j11 (s8.1, s8.2.1, s8.2.2.2)
                  else
                    (f_G_copyFrom_17_1 s8.2.2.2).bind fun r15 =>
                    (f_G_setWall_17 s8.2.2.1 (1 : Int32) r15).bind fun r16 =>
                    (f_G_goOn_17 a1 r16).bind fun r17 =>
                    (f_Y_spoiledInTrial r17).bind fun r18 =>
                    if s8.1 ≤ r18 then
                      j11 (s8.1, s8.2.1, r17)
                    else
                      (f_Y_spoiledInTrial r17).bind fun r20 =>
                      j11 (r20, s8.2.2.1, r17)
              )
        ) (r7, (-4 : Int32), (0 : Int32), r6)).bind (fun b8 =>
          z_join (T := Unit) (fun t21 =>
              some (b8.2.1, b8.2.2)
            ) (fun j21 =>
              if b8.2.1 = (-4 : Int32) then
                j21 ()
              else
                if a2 = 0 then
                  j21 ()
                else
                  some (b8.1, b8.2.2)
            )
        )
/-- SeasonYardModel.fence(II)I -/
noncomputable def f_M_fence (a1 : Int32) (a2 : Int32) (σ : zS) : Option (Int32 × zS) :=
  (f_M_in (a1.toInt64) (1 : Int64) (12 : Int64) σ).bind fun r1 =>
  if r1 = 0 then
    some ((-1 : Int32), σ)
  else
    (f_M_in (a2.toInt64) (0 : Int64) (1 : Int64) σ).bind fun r3 =>
    if r3 = 0 then
      some ((-1 : Int32), σ)
    else
      (f_M_copies (0 : Int32) (440 : Int32) σ).bind fun r5 =>
      (f_M_triedBy a1 (1 : Int32) r5).bind fun r6 =>
      (z_loop (S := Int32 × Int32 × Int32 × zS) (β := Int32 × Int32 × zS) (fun s7 =>
          if (((2 : Int32) * (s7.2.2.2 90 1)) * (s7.2.2.2 90 2)) ≤ s7.2.2.1 then
            some (.inr (s7.1, s7.2.1, s7.2.2.2))
          else
            (f_M_isEdge s7.2.2.1 s7.2.2.2).bind fun r9 =>
            z_join (T := Int32 × Int32 × zS) (fun t10 =>
                some (.inl (t10.1, t10.2.1, (s7.2.2.1 + (1 : Int32)), t10.2.2))
              ) (fun j10 =>
                if r9 = 0 then
                  j10 (s7.1, s7.2.1, s7.2.2.2)
                else
                  (f_M_isWalled (0 : Int32) s7.2.2.1 s7.2.2.2).bind fun r12 =>
                  if r12 = 0 then
                    (f_M_copies (0 : Int32) (440 : Int32) s7.2.2.2).bind fun r14 =>
                    z_let (z_u r14 91 (520 : Int32).toNatClampNeg ((r14 91 (520 : Int32).toNatClampNeg) ||| ((1 : Int32) <<< (s7.2.2.1 &&& 31)))) fun τ15 =>
                    (f_M_triedBy a1 (1 : Int32) τ15).bind fun r16 =>
                    z_join (T := Int32) (fun t17 =>
                        z_join (T := Int32) (fun t18 =>
                            j10 (t18, t17, r16.2)
                          ) (fun j18 =>
                            if s7.1 ≤ r16.1 then
                              j18 s7.1
                            else
                              j18 r16.1
                          )
                      ) (fun j17 =>
                        if s7.1 ≤ r16.1 then
                          j17 s7.2.1
                        else
                          j17 s7.2.2.1
                      )
                  else
                    j10 (s7.1, s7.2.1, s7.2.2.2)
              )
        ) (r6.1, (-4 : Int32), (0 : Int32), r6.2)).bind (fun b7 =>
          z_join (T := Unit) (fun t21 =>
              some (b7.2.1, b7.2.2)
            ) (fun j21 =>
              if b7.2.1 = (-4 : Int32) then
                j21 ()
              else
                if a2 = 0 then
                  j21 ()
                else
                  some (b7.1, b7.2.2)
            )
        )
/-- SeasonYard.blame(II)I -/
noncomputable def f_Y_blame (a1 : Int32) (a2 : Int32) (σ : zS) : Option (Int32 × zS) :=
  (f_G_hasCell_1 a1 σ).bind fun r1 =>
  if r1 = 0 then
    some ((-1 : Int32), σ)
  else
    (f_Y_isIn a2 (1 : Int32) (12 : Int32) σ).bind fun r3 =>
    if r3 = 0 then
      some ((-1 : Int32), σ)
    else
      if z_ib a1 16 = true then
      if (σ 4 a1.toNatClampNeg) = (-4 : Int32) then
        some ((-2 : Int32), σ)
      else
        (f_G_copyFrom_17_1 σ).bind fun r7 =>
        (f_G_goOn_17 a2 r7).bind fun r8 =>
        if z_ib a1 16 = true then
        if z_ib a1 16 = true then
        (z_loop (S := Int32 × Int32 × zS) (β := Int32 × zS) (fun s11 =>
            (f_G_cells_1 s11.2.2).bind fun r12 =>
            if r12 ≤ s11.2.1 then
              some (.inr (s11.1, s11.2.2))
            else
              z_join (T := Int32 × zS) (fun t14 =>
                  some (.inl (t14.1, (s11.2.1 + (1 : Int32)), t14.2))
                ) (fun j14 =>
                  if s11.2.1 = a1 then
                    j14 (s11.1, s11.2.2)
                  else
                    if z_ib s11.2.1 16 = true then
                    if (s11.2.2 2 s11.2.1.toNatClampNeg) = (4 : Int32) then
                      j14 (s11.1, s11.2.2)
                    else
                      (f_G_copyFrom_17_1 s11.2.2).bind fun r18 =>
                      (f_G_setBare_17 s11.2.1 r18).bind fun r19 =>
                      (f_G_goOn_17 a2 r19).bind fun r20 =>
                      if z_ib a1 16 = true then
                      z_join (T := Unit) (fun t22 =>
                          z_let (s11.1 ||| ((1 : Int32) <<< (s11.2.1 &&& 31))) fun v23 =>
                          j14 (v23, r20)
                        ) (fun j22 =>
                          if (r20 20 a1.toNatClampNeg) = (r8 20 a1.toNatClampNeg) then
                            if z_ib a1 16 = true then
                            if (r20 21 a1.toNatClampNeg) = (r8 21 a1.toNatClampNeg) then
                              j14 (s11.1, r20)
                            else
                              j22 ()
                            else none
                          else
                            j22 ()
                        )
                      else none
                    else none
                )
          ) ((0 : Int32), (0 : Int32), r8)).bind (fun b11 =>
            some (b11.1, b11.2)
          )
        else none
        else none
      else none
/-- SeasonYardModel.blame(II)I -/
noncomputable def f_M_blame (a1 : Int32) (a2 : Int32) (σ : zS) : Option (Int32 × zS) :=
  (f_M_isCell a1 σ).bind fun r1 =>
  if r1 = 0 then
    some ((-1 : Int32), σ)
  else
    (f_M_in (a2.toInt64) (1 : Int64) (12 : Int64) σ).bind fun r3 =>
    if r3 = 0 then
      some ((-1 : Int32), σ)
    else
      (f_M_cropIn (0 : Int32) a1 σ).bind fun r5 =>
      if r5 = (-4 : Int32) then
        some ((-2 : Int32), σ)
      else
        (f_M_copies (0 : Int32) (440 : Int32) σ).bind fun r7 =>
        (f_M_weeks (440 : Int32) a2 r7).bind fun r8 =>
        (f_M_cropIn (440 : Int32) a1 r8).bind fun r9 =>
        if z_ib (((440 : Int32) + ((5 : Int32) * a1)) + (3 : Int32)) 550 = true then
        z_let (r8 91 (((440 : Int32) + ((5 : Int32) * a1)) + (3 : Int32)).toNatClampNeg) fun v11 =>
        (z_loop (S := Int32 × Int32 × zS) (β := Int32 × zS) (fun s12 =>
            if ((s12.2.2 90 1) * (s12.2.2 90 2)) ≤ s12.2.1 then
              some (.inr (s12.1, s12.2.2))
            else
              (f_M_copies (0 : Int32) (440 : Int32) s12.2.2).bind fun r14 =>
              if z_ib (((440 : Int32) + ((5 : Int32) * s12.2.1)) + (1 : Int32)) 550 = true then
              z_let (z_u r14 91 (((440 : Int32) + ((5 : Int32) * s12.2.1)) + (1 : Int32)).toNatClampNeg (0 : Int32)) fun τ16 =>
              (f_M_weeks (440 : Int32) a2 τ16).bind fun r17 =>
              (f_M_cropIn (440 : Int32) a1 r17).bind fun r18 =>
              z_join (T := Int32) (fun t19 =>
                  z_join (T := Int32 × Int32) (fun t20 =>
                      some (.inl ((t20.2 ||| t20.1), (s12.2.1 + (1 : Int32)), r17))
                    ) (fun j20 =>
                      z_join (T := Int32) (fun t21 =>
                          j20 ((0 : Int32), t21)
                        ) (fun j21 =>
                          if s12.2.1 = a1 then
                            j21 s12.1
                          else
                            if t19 = 0 then
                              j21 s12.1
                            else
                              j20 (((1 : Int32) <<< (s12.2.1 &&& 31)), s12.1)
                        )
                    )
                ) (fun j19 =>
                  z_join (T := Unit) (fun t24 =>
                      j19 (1 : Int32)
                    ) (fun j24 =>
                      if r18 = r9 then
                        if z_ib (((440 : Int32) + ((5 : Int32) * a1)) + (3 : Int32)) 550 = true then
                        if (r17 91 (((440 : Int32) + ((5 : Int32) * a1)) + (3 : Int32)).toNatClampNeg) = v11 then
                          j19 (0 : Int32)
                        else
                          j24 ()
                        else none
                      else
                        j24 ()
                    )
                )
              else none
          ) ((0 : Int32), (0 : Int32), r8)).bind (fun b12 =>
            some (b12.1, b12.2)
          )
        else none
/-- SeasonYard$Luck.allWays(I)J -/
noncomputable def f_Lk_allWays (a0 : Int32) (σ : zS) : Option (Int64) :=
  (z_loop (S := Int64 × Int32) (β := Int64) (fun s1 =>
      if a0 ≤ s1.2 then
        some (.inr s1.1)
      else
        some (.inl ((s1.1 * (10 : Int64)), (s1.2 + (1 : Int32))))
    ) ((1 : Int64), (0 : Int32))).bind (fun b1 =>
      some b1
    )
/-- SeasonYard$Luck.goodWays(IIIIII)J -/
noncomputable def f_Lk_goodWays : Nat → Int32 → Int32 → Int32 → Int32 → Int32 → Int32 → zS → Option (Int64)
  | 0, _, _, _, _, _, _, _ => none
  | n + 1, a0, a1, a2, a3, a4, a5, σ =>
    if a5 ≤ 0 then
      some (0 : Int64)
    else
      if a5 ≤ (8 : Int32) then
        (f_Cr_behind a0 a1 a2 σ).bind fun r3 =>
        if r3 = (3 : Int32) then
          (f_Lk_allWays a5 σ).bind fun r5 =>
          some r5
        else
          if r3 = (4 : Int32) then
            some (0 : Int64)
          else
            z_join (T := Int32 × Int32 × Int32) (fun t7 =>
                (f_Lk_goodWays n t7.2.2 t7.2.1 t7.1 (a3 - (1 : Int32)) a4 (a5 - (1 : Int32)) σ).bind fun r8 =>
                z_join (T := Int32 × Int32 × Int32) (fun t9 =>
                    (f_Lk_goodWays n t9.2.2 t9.2.1 t9.1 (a3 - (2 : Int32)) a4 (a5 - (1 : Int32)) σ).bind fun r10 =>
                    some (((((10 : Int32) - a4).toInt64) * r8) + ((a4.toInt64) * r10))
                  ) (fun j9 =>
                    if a3 ≤ (2 : Int32) then
                      j9 ((4 : Int32), r3, a0)
                    else
                      j9 (a2, r3, a0)
                  )
              ) (fun j7 =>
                if a3 ≤ (1 : Int32) then
                  j7 ((4 : Int32), r3, a0)
                else
                  j7 (a2, r3, a0)
              )
      else
        some (0 : Int64)
/-- SeasonYard$Luck.commonDivisor(JJ)J -/
noncomputable def f_Lk_commonDivisor (a0 : Int64) (a1 : Int64) (σ : zS) : Option (Int64) :=
  (z_loop (S := Int64 × Int64 × Int32) (β := Int64) (fun s1 =>
      if (200 : Int32) ≤ s1.2.2 then
        some (.inr s1.1)
      else
        if (lg_cmp s1.2.1 (0 : Int64)) = 0 then
          some (.inr s1.1)
        else
          if s1.2.1 = 0 then none else
          z_let (s1.1 - s1.1 / s1.2.1 * s1.2.1) fun v5 =>
          some (.inl (s1.2.1, v5, (s1.2.2 + (1 : Int32))))
    ) (a0, a1, (0 : Int32))).bind (fun b1 =>
      some b1
    )
/-- SeasonYard.luck(IIII)J -/
noncomputable def f_Y_luck (a1 : Int32) (a2 : Int32) (a3 : Int32) (a4 : Int32) (σ : zS) : Option (Int64) :=
  (f_G_hasCell_1 a1 σ).bind fun r1 =>
  if r1 = 0 then
    some (-1 : Int64)
  else
    (f_Y_isIn a2 (0 : Int32) (10 : Int32) σ).bind fun r3 =>
    if r3 = 0 then
      some (-1 : Int64)
    else
      (f_Y_isIn a3 (1 : Int32) (8 : Int32) σ).bind fun r5 =>
      if r5 = 0 then
        some (-1 : Int64)
      else
        (f_Y_isIn a4 (0 : Int32) (1 : Int32) σ).bind fun r7 =>
        if r7 = 0 then
          some (-1 : Int64)
        else
          if z_ib a1 16 = true then
          if (σ 4 a1.toNatClampNeg) = (-4 : Int32) then
            some (-2 : Int64)
          else
            (f_Lk_allWays a3 σ).bind fun r11 =>
            if z_ib a1 16 = true then
            if z_ib a1 16 = true then
            if z_ib a1 16 = true then
            (f_Lk_goodWays 10 (σ 4 a1.toNatClampNeg) (σ 5 a1.toNatClampNeg) (σ 2 a1.toNatClampNeg) (σ 3 a1.toNatClampNeg) a2 a3 σ).bind fun r15 =>
            (f_Lk_commonDivisor r15 r11 σ).bind fun r16 =>
            if 0 ≤ (lg_cmp r16 (1 : Int64)) then
              if a4 = 0 then
                if r16 = 0 then none else
                some (r15 / r16)
              else
                if r16 = 0 then none else
                some (r11 / r16)
            else
              some (a4.toInt64)
            else none
            else none
            else none
          else none
/-- SeasonYardModel.isRipeBy(III)Z -/
noncomputable def f_M_isRipeBy (a1 : Int32) (a2 : Int32) (a3 : Int32) (σ : zS) : Option (Int32) :=
  (f_M_cropIn (0 : Int32) a1 σ).bind fun r1 =>
  if z_ib (((5 : Int32) * a1) + (1 : Int32)) 550 = true then
  z_let (σ 91 (((5 : Int32) * a1) + (1 : Int32)).toNatClampNeg) fun v3 =>
  if z_ib (((5 : Int32) * a1) + (3 : Int32)) 550 = true then
  z_let (σ 91 (((5 : Int32) * a1) + (3 : Int32)).toNatClampNeg) fun v5 =>
  (z_loop (S := Int32 × Int32 × Int32) (β := Int32) (fun s6 =>
      if a2 ≤ s6.2.2 then
        some (.inr s6.2.1)
      else
        if (3 : Int32) ≤ s6.2.1 then
          some (.inr s6.2.1)
        else
          z_join (T := Int32 × Int32 × Int32) (fun t9 =>
              (f_M_stageBy t9.2.2 t9.2.1 t9.1 σ).bind fun r10 =>
              z_let (s6.1 - ((1 : Int32) + ((a3 >>> (s6.2.2 &&& 31)) &&& (1 : Int32)))) fun v11 =>
              z_join (T := Int32) (fun t12 =>
                  some (.inl (t12, r10, (s6.2.2 + (1 : Int32))))
                ) (fun j12 =>
                  if 0 ≤ v11 then
                    j12 v11
                  else
                    j12 (0 : Int32)
                )
            ) (fun j9 =>
              if s6.1 = 0 then
                j9 ((4 : Int32), s6.2.1, r1)
              else
                if z_ib ((5 : Int32) * a1) 550 = true then
                j9 ((σ 91 ((5 : Int32) * a1).toNatClampNeg), s6.2.1, r1)
                else none
            )
    ) (v3, v5, (0 : Int32))).bind (fun b6 =>
      if b6 = (3 : Int32) then
        some (1 : Int32)
      else
        some (0 : Int32)
    )
  else none
  else none
/-- SeasonYardModel.lowest(JJI)J -/
noncomputable def f_M_lowest (a0 : Int64) (a1 : Int64) (a2 : Int32) (σ : zS) : Option (Int64) :=
  (z_loop (S := Int64 × Int64) (β := Int64) (fun s1 =>
      if (lg_cmp s1.2 (0 : Int64)) = 0 then
        some (.inr s1.1)
      else
        if s1.2 = 0 then none else
        some (.inl (s1.2, (s1.1 - s1.1 / s1.2 * s1.2)))
    ) (a0, a1)).bind (fun b1 =>
      z_join (T := Int64) (fun t4 =>
          if b1 = 0 then none else
          some (t4 / b1)
        ) (fun j4 =>
          if a2 = 0 then
            j4 a0
          else
            j4 a1
        )
    )
/-- SeasonYardModel.luck(IIII)J -/
noncomputable def f_M_luck (a1 : Int32) (a2 : Int32) (a3 : Int32) (a4 : Int32) (σ : zS) : Option (Int64) :=
  (f_M_isCell a1 σ).bind fun r1 =>
  if r1 = 0 then
    some (-1 : Int64)
  else
    (f_M_in (a2.toInt64) (0 : Int64) (10 : Int64) σ).bind fun r3 =>
    if r3 = 0 then
      some (-1 : Int64)
    else
      (f_M_in (a3.toInt64) (1 : Int64) (8 : Int64) σ).bind fun r5 =>
      if r5 = 0 then
        some (-1 : Int64)
      else
        (f_M_in (a4.toInt64) (0 : Int64) (1 : Int64) σ).bind fun r7 =>
        if r7 = 0 then
          some (-1 : Int64)
        else
          (f_M_cropIn (0 : Int32) a1 σ).bind fun r9 =>
          if r9 = (-4 : Int32) then
            some (-2 : Int64)
          else
            (z_loop (S := Int64 × Int32) (β := Int64) (fun s11 =>
                if a3 ≤ s11.2 then
                  some (.inr s11.1)
                else
                  some (.inl ((s11.1 * (10 : Int64)), (s11.2 + (1 : Int32))))
              ) ((1 : Int64), (0 : Int32))).bind (fun b11 =>
                (z_loop (S := Int64 × Int32) (β := Int64) (fun s13 =>
                    if ((1 : Int32) <<< (a3 &&& 31)) ≤ s13.2 then
                      some (.inr s13.1)
                    else
                      (z_loop (S := Int64 × Int32) (β := Int64) (fun s15 =>
                          if a3 ≤ s15.2 then
                            some (.inr s15.1)
                          else
                            z_join (T := Int64 × Int64) (fun t17 =>
                                some (.inl ((t17.2 * t17.1), (s15.2 + (1 : Int32))))
                              ) (fun j17 =>
                                if ((s13.2 >>> (s15.2 &&& 31)) &&& (1 : Int32)) = (1 : Int32) then
                                  j17 ((a2.toInt64), s15.1)
                                else
                                  j17 ((((10 : Int32) - a2).toInt64), s15.1)
                              )
                        ) ((1 : Int64), (0 : Int32))).bind (fun b15 =>
                          (f_M_isRipeBy a1 a3 s13.2 σ).bind fun r19 =>
                          z_join (T := Int64 × Int64) (fun t20 =>
                              some (.inl ((t20.2 + t20.1), (s13.2 + (1 : Int32))))
                            ) (fun j20 =>
                              if r19 = 0 then
                                j20 ((0 : Int64), s13.1)
                              else
                                j20 (b15, s13.1)
                            )
                        )
                  ) ((0 : Int64), (0 : Int32))).bind (fun b13 =>
                    (f_M_lowest b13 b11 a4 σ).bind fun r22 =>
                    some r22
                  )
              )
/-- SeasonYard$Stubble.add(II)Z -/
noncomputable def f_St_add_44 (a1 : Int32) (a2 : Int32) (σ : zS) : Option (Int32 × zS) :=
  if (σ 44 2) < (6 : Int32) then
    if z_ib (σ 44 2) 6 = true then
    z_let (z_u σ 45 (σ 44 2).toNatClampNeg a1) fun τ3 =>
    if z_ib (τ3 44 2) 6 = true then
    z_let (z_u τ3 46 (τ3 44 2).toNatClampNeg a2) fun τ5 =>
    z_let (z_u τ5 44 2 ((τ5 44 2) + (1 : Int32))) fun τ6 =>
    some ((1 : Int32), τ6)
    else none
    else none
  else
    some ((0 : Int32), σ)
/-- SeasonYard.see(II)I -/
noncomputable def f_Y_see (a1 : Int32) (a2 : Int32) (σ : zS) : Option (Int32 × zS) :=
  (f_Y_isIn a1 (0 : Int32) (4 : Int32) σ).bind fun r1 =>
  if r1 = 0 then
    some ((-1 : Int32), σ)
  else
    (f_Y_isIn a2 (0 : Int32) (4 : Int32) σ).bind fun r3 =>
    if r3 = 0 then
      some ((-1 : Int32), σ)
    else
      (f_St_add_44 a1 a2 σ).bind fun r5 =>
      if r5.1 = 0 then
        some ((-3 : Int32), r5.2)
      else
        some ((r5.2 44 2), r5.2)
/-- SeasonYardModel.see(II)I -/
noncomputable def f_M_see (a1 : Int32) (a2 : Int32) (σ : zS) : Option (Int32 × zS) :=
  (f_M_in (a1.toInt64) (0 : Int64) (4 : Int64) σ).bind fun r1 =>
  if r1 = 0 then
    some ((-1 : Int32), σ)
  else
    (f_M_in (a2.toInt64) (0 : Int64) (4 : Int64) σ).bind fun r3 =>
    if r3 = 0 then
      some ((-1 : Int32), σ)
    else
      if (σ 90 26) = (6 : Int32) then
        some ((-3 : Int32), σ)
      else
        if z_ib ((2 : Int32) * (σ 90 26)) 12 = true then
        z_let (z_u σ 100 ((2 : Int32) * (σ 90 26)).toNatClampNeg a1) fun τ7 =>
        if z_ib (((2 : Int32) * (τ7 90 26)) + (1 : Int32)) 12 = true then
        z_let (z_u τ7 100 (((2 : Int32) * (τ7 90 26)) + (1 : Int32)).toNatClampNeg a2) fun τ9 =>
        z_let (z_u τ9 90 26 ((τ9 90 26) + (1 : Int32))) fun τ10 =>
        some ((τ10 90 26), τ10)
        else none
        else none
/-- SeasonYard.forget(I)I -/
noncomputable def f_Y_forget (a1 : Int32) (σ : zS) : Option (Int32 × zS) :=
  (f_Y_isIn a1 (0 : Int32) (σ 44 2) σ).bind fun r1 =>
  if r1 = 0 then
    some ((-1 : Int32), σ)
  else
    z_let (z_u σ 44 2 a1) fun τ3 =>
    some ((σ 44 2), τ3)
/-- SeasonYardModel.forget(I)I -/
noncomputable def f_M_forget (a1 : Int32) (σ : zS) : Option (Int32 × zS) :=
  (f_M_in (a1.toInt64) (0 : Int64) ((σ 90 26).toInt64) σ).bind fun r1 =>
  if r1 = 0 then
    some ((-1 : Int32), σ)
  else
    z_let (z_u σ 90 26 a1) fun τ3 =>
    some ((σ 90 26), τ3)
/-- java/util/Arrays.fill([II)V -/
noncomputable def f_JA_fill_47 (a1 : Int32) (σ : zS) : Option (zS) :=
  (z_loop (S := Int32 × zS) (β := zS) (fun s1 =>
      if (5 : Int32) ≤ s1.1 then
        some (.inr s1.2)
      else
        if z_ib s1.1 5 = true then
        z_let (z_u s1.2 47 s1.1.toNatClampNeg a1) fun τ4 =>
        some (.inl ((s1.1 + (1 : Int32)), τ4))
        else none
    ) ((0 : Int32), σ)).bind (fun b1 =>
      some b1
    )
/-- java/util/Arrays.fill([II)V -/
noncomputable def f_JA_fill_48 (a1 : Int32) (σ : zS) : Option (zS) :=
  (z_loop (S := Int32 × zS) (β := zS) (fun s1 =>
      if (5 : Int32) ≤ s1.1 then
        some (.inr s1.2)
      else
        if z_ib s1.1 5 = true then
        z_let (z_u s1.2 48 s1.1.toNatClampNeg a1) fun τ4 =>
        some (.inl ((s1.1 + (1 : Int32)), τ4))
        else none
    ) ((0 : Int32), σ)).bind (fun b1 =>
      some b1
    )
/-- java/util/Arrays.fill([II)V -/
noncomputable def f_JA_fill_49 (a1 : Int32) (σ : zS) : Option (zS) :=
  (z_loop (S := Int32 × zS) (β := zS) (fun s1 =>
      if (5 : Int32) ≤ s1.1 then
        some (.inr s1.2)
      else
        if z_ib s1.1 5 = true then
        z_let (z_u s1.2 49 s1.1.toNatClampNeg a1) fun τ4 =>
        some (.inl ((s1.1 + (1 : Int32)), τ4))
        else none
    ) ((0 : Int32), σ)).bind (fun b1 =>
      some b1
    )
/-- SeasonYard$Stubble.isAsSeen(II)Z -/
noncomputable def f_St_isAsSeen_44 (a1 : Int32) (a2 : Int32) (σ : zS) : Option (Int32) :=
  (z_loop (S := Int32) (β := (Unit) ⊕ (Int32)) (fun s1 =>
      if (σ 44 2) ≤ s1 then
        some (.inr (.inl ()))
      else
        if (6 : Int32) ≤ s1 then
          some (.inr (.inl ()))
        else
          if z_ib s1 6 = true then
          z_join (T := Unit) (fun t5 =>
              some (.inl (s1 + (1 : Int32)))
            ) (fun j5 =>
              if (σ 45 s1.toNatClampNeg) = a1 then
                if z_ib s1 6 = true then
                if (σ 46 s1.toNatClampNeg) = a2 then
                  j5 ()
                else
                  some (.inr (.inr (0 : Int32)))
                else none
              else
                j5 ()
            )
          else none
    ) (0 : Int32)).bind (fun bb => match bb with
    | .inl b1 =>
      some (1 : Int32)
    | .inr g => some g)
/-- SeasonYard$Stubble.goFrom(III)V -/
noncomputable def f_St_goFrom_44 (a1 : Int32) (a2 : Int32) (a3 : Int32) (σ : zS) : Option (zS) :=
  (z_loop (S := Int32 × zS) (β := zS) (fun s1 =>
      if (4 : Int32) < s1.1 then
        some (.inr s1.2)
      else
        z_join (T := Int32) (fun t3 =>
            if z_ib a2 5 = true then
            z_join (T := Int32) (fun t5 =>
                z_join (T := zS) (fun t6 =>
                    some (.inl ((s1.1 + (1 : Int32)), t6))
                  ) (fun j6 =>
                    if t5 = 0 then
                      j6 s1.2
                    else
                      (f_Y_isIn t3 (0 : Int32) (4 : Int32) s1.2).bind fun r8 =>
                      if r8 = 0 then
                        j6 s1.2
                      else
                        (f_St_isAsSeen_44 a2 t3 s1.2).bind fun r10 =>
                        if r10 = 0 then
                          j6 s1.2
                        else
                          if z_ib t3 5 = true then
                          if z_ib a3 5 = true then
                          if z_ib t3 5 = true then
                          z_let (z_u s1.2 49 t3.toNatClampNeg ((s1.2 49 t3.toNatClampNeg) + (s1.2 48 a3.toNatClampNeg))) fun τ15 =>
                          j6 τ15
                          else none
                          else none
                          else none
                  )
              ) (fun j5 =>
                z_join (T := Unit) (fun t16 =>
                    j5 (1 : Int32)
                  ) (fun j16 =>
                    if (s1.2 47 a2.toNatClampNeg) = (-1 : Int32) then
                      j16 ()
                    else
                      if z_ib a2 5 = true then
                      if (s1.2 47 a2.toNatClampNeg) = s1.1 then
                        j16 ()
                      else
                        j5 (0 : Int32)
                      else none
                  )
              )
            else none
          ) (fun j3 =>
            if (3 : Int32) ≤ a3 then
              j3 a3
            else
              (f_Cr_behind a1 a3 s1.1 s1.2).bind fun r21 =>
              j3 r21
          )
    ) ((0 : Int32), σ)).bind (fun b1 =>
      some b1
    )
/-- SeasonYard$Stubble.fittingRow(II)I -/
noncomputable def f_St_fittingRow_44 (a1 : Int32) (a2 : Int32) (σ : zS) : Option (Int32 × zS) :=
  (f_JA_fill_48 (0 : Int32) σ).bind fun r1 =>
  z_let (z_u r1 48 (0 : Int32).toNatClampNeg (1 : Int32)) fun τ2 =>
  (z_loop (S := Int32 × zS) (β := zS) (fun s3 =>
      if a2 ≤ s3.1 then
        some (.inr s3.2)
      else
        (f_JA_fill_49 (0 : Int32) s3.2).bind fun r5 =>
        (z_loop (S := Int32 × zS) (β := zS) (fun s6 =>
            if (5 : Int32) ≤ s6.1 then
              some (.inr s6.2)
            else
              (f_St_goFrom_44 a1 s3.1 s6.1 s6.2).bind fun r8 =>
              some (.inl ((s6.1 + (1 : Int32)), r8))
          ) ((0 : Int32), r5)).bind (fun b6 =>
            z_let (z_cp b6 49 48 0 0 5) fun τ9 =>
            some (.inl ((s3.1 + (1 : Int32)), τ9))
          )
    ) ((0 : Int32), τ2)).bind (fun b3 =>
      (z_loop (S := Int32 × Int32) (β := Int32) (fun s10 =>
          if (5 : Int32) ≤ s10.2 then
            some (.inr s10.1)
          else
            if z_ib s10.2 5 = true then
            z_let (s10.1 + (b3 48 s10.2.toNatClampNeg)) fun v13 =>
            some (.inl (v13, (s10.2 + (1 : Int32))))
            else none
        ) ((0 : Int32), (0 : Int32))).bind (fun b10 =>
          some (b10, b3)
        )
    )
/-- SeasonYard$Stubble.fitting(II)I -/
noncomputable def f_St_fitting_44 (a1 : Int32) (a2 : Int32) (σ : zS) : Option (Int32 × zS) :=
  (f_JA_fill_47 (-1 : Int32) σ).bind fun r1 =>
  (f_St_fittingRow_44 a1 a2 r1).bind fun r2 =>
  some (r2.1, r2.2)
/-- SeasonYard$Stubble.firstFitting(II)I -/
noncomputable def f_St_firstFitting_44 (a1 : Int32) (a2 : Int32) (σ : zS) : Option (Int32 × zS) :=
  (f_St_fitting_44 a1 a2 σ).bind fun r1 =>
  if r1.1 = 0 then
    some ((-4 : Int32), r1.2)
  else
    (z_loop (S := Int32 × Int32 × zS) (β := Int32 × zS) (fun s3 =>
        if a2 ≤ s3.2.1 then
          some (.inr (s3.1, s3.2.2))
        else
          if z_ib s3.2.1 5 = true then
          z_let (z_u s3.2.2 47 s3.2.1.toNatClampNeg (0 : Int32)) fun τ6 =>
          (z_loop (S := zS) (β := zS) (fun s7 =>
              if z_ib s3.2.1 5 = true then
              if (4 : Int32) ≤ (s7 47 s3.2.1.toNatClampNeg) then
                some (.inr s7)
              else
                (f_St_fittingRow_44 a1 a2 s7).bind fun r10 =>
                if r10.1 = 0 then
                  if z_ib s3.2.1 5 = true then
                  if z_ib s3.2.1 5 = true then
                  z_let (z_u r10.2 47 s3.2.1.toNatClampNeg ((r10.2 47 s3.2.1.toNatClampNeg) + (1 : Int32))) fun τ14 =>
                  some (.inl τ14)
                  else none
                  else none
                else
                  some (.inr r10.2)
              else none
            ) τ6).bind (fun b7 =>
              if z_ib s3.2.1 5 = true then
              z_let (((5 : Int32) * s3.1) + (b7 47 s3.2.1.toNatClampNeg)) fun v16 =>
              some (.inl (v16, (s3.2.1 + (1 : Int32)), b7))
              else none
            )
          else none
      ) ((0 : Int32), (0 : Int32), r1.2)).bind (fun b3 =>
        some (b3.1, b3.2)
      )
/-- SeasonYard.rows(III)I -/
noncomputable def f_Y_rows (a1 : Int32) (a2 : Int32) (a3 : Int32) (σ : zS) : Option (Int32 × zS) :=
  (f_Cr_isKind a1 σ).bind fun r1 =>
  if r1 = 0 then
    some ((-1 : Int32), σ)
  else
    (f_Y_isIn a2 (1 : Int32) (5 : Int32) σ).bind fun r3 =>
    if r3 = 0 then
      some ((-1 : Int32), σ)
    else
      (f_Y_isIn a3 (0 : Int32) (1 : Int32) σ).bind fun r5 =>
      if r5 = 0 then
        some ((-1 : Int32), σ)
      else
        if a3 = 0 then
          (f_St_fitting_44 a1 a2 σ).bind fun r8 =>
          some (r8.1, r8.2)
        else
          (f_St_firstFitting_44 a1 a2 σ).bind fun r9 =>
          some (r9.1, r9.2)
/-- SeasonYardModel.power(I)I -/
noncomputable def f_M_power (a0 : Int32) (σ : zS) : Option (Int32) :=
  (z_loop (S := Int32 × Int32) (β := Int32) (fun s1 =>
      if a0 ≤ s1.2 then
        some (.inr s1.1)
      else
        some (.inl ((s1.1 * (5 : Int32)), (s1.2 + (1 : Int32))))
    ) ((1 : Int32), (0 : Int32))).bind (fun b1 =>
      some b1
    )
/-- SeasonYardModel.rowFits(III)Z -/
noncomputable def f_M_rowFits (a1 : Int32) (a2 : Int32) (a3 : Int32) (σ : zS) : Option (Int32) :=
  (f_M_power a2 σ).bind fun r1 =>
  (z_loop (S := Int32 × Int32 × Int32 × Int32) (β := Int32) (fun s2 =>
      if a2 ≤ s2.2.2.2 then
        some (.inr s2.2.2.1)
      else
        z_join (T := Int32) (fun t4 =>
            (z_loop (S := Int32 × Int32) (β := Int32) (fun s5 =>
                if (σ 90 26) ≤ s5.2 then
                  some (.inr s5.1)
                else
                  z_join (T := Int32) (fun t7 =>
                      some (.inl (t7, (s5.2 + (1 : Int32))))
                    ) (fun j7 =>
                      z_join (T := Unit) (fun t8 =>
                          j7 (0 : Int32)
                        ) (fun j8 =>
                          if s5.1 = 0 then
                            j8 ()
                          else
                            if z_ib ((2 : Int32) * s5.2) 12 = true then
                            z_join (T := Unit) (fun t11 =>
                                j7 (1 : Int32)
                              ) (fun j11 =>
                                if (σ 100 ((2 : Int32) * s5.2).toNatClampNeg) = s2.2.2.2 then
                                  if z_ib (((2 : Int32) * s5.2) + (1 : Int32)) 12 = true then
                                  if (σ 100 (((2 : Int32) * s5.2) + (1 : Int32)).toNatClampNeg) = t4 then
                                    j11 ()
                                  else
                                    j8 ()
                                  else none
                                else
                                  j11 ()
                              )
                            else none
                        )
                    )
              ) (s2.2.2.1, (0 : Int32))).bind (fun b5 =>
                some (.inl (t4, (s2.2.1 / (5 : Int32)), b5, (s2.2.2.2 + (1 : Int32))))
              )
          ) (fun j4 =>
            if (3 : Int32) ≤ s2.1 then
              j4 s2.1
            else
              if (s2.2.1 / (5 : Int32)) = 0 then none else
              (f_M_stageBy a1 s2.1 ((a3 / (s2.2.1 / (5 : Int32))) - (a3 / (s2.2.1 / (5 : Int32))) / (5 : Int32) * (5 : Int32)) σ).bind fun r17 =>
              j4 r17
          )
    ) ((0 : Int32), r1, (1 : Int32), (0 : Int32))).bind (fun b2 =>
      if b2 = 0 ∨ b2 = 1 then
      some b2
      else none
    )
/-- SeasonYardModel.rows(III)I -/
noncomputable def f_M_rows (a1 : Int32) (a2 : Int32) (a3 : Int32) (σ : zS) : Option (Int32) :=
  (f_M_in (a1.toInt64) (0 : Int64) (4 : Int64) σ).bind fun r1 =>
  if r1 = 0 then
    some (-1 : Int32)
  else
    (f_M_in (a2.toInt64) (1 : Int64) (5 : Int64) σ).bind fun r3 =>
    if r3 = 0 then
      some (-1 : Int32)
    else
      (f_M_in (a3.toInt64) (0 : Int64) (1 : Int64) σ).bind fun r5 =>
      if r5 = 0 then
        some (-1 : Int32)
      else
        (z_loop (S := Int32 × Int32 × Int32) (β := Int32 × Int32) (fun s7 =>
            (f_M_power a2 σ).bind fun r8 =>
            if r8 ≤ s7.2.2 then
              some (.inr (s7.1, s7.2.1))
            else
              (f_M_rowFits a1 a2 s7.2.2 σ).bind fun r10 =>
              z_join (T := Int32 × Int32) (fun t11 =>
                  some (.inl (t11.1, t11.2, (s7.2.2 + (1 : Int32))))
                ) (fun j11 =>
                  if r10 = 0 then
                    j11 (s7.1, s7.2.1)
                  else
                    z_join (T := Int32) (fun t13 =>
                        j11 ((s7.1 + (1 : Int32)), t13)
                      ) (fun j13 =>
                        if s7.1 = 0 then
                          j13 s7.2.2
                        else
                          j13 s7.2.1
                      )
                )
          ) ((0 : Int32), (-4 : Int32), (0 : Int32))).bind (fun b7 =>
            if a3 = 0 then
              some b7.1
            else
              some b7.2
          )
/-- SeasonYard$Stubble.onlyOne(III)I -/
noncomputable def f_St_onlyOne_44 (a1 : Int32) (a2 : Int32) (a3 : Int32) (σ : zS) : Option (Int32 × zS) :=
  (f_St_fitting_44 a1 a2 σ).bind fun r1 =>
  (z_loop (S := Int32 × zS) (β := (zS) ⊕ (Int32 × zS)) (fun s2 =>
      if (4 : Int32) < s2.1 then
        some (.inr (.inl s2.2))
      else
        if r1.1 ≤ 0 then
          some (.inr (.inl s2.2))
        else
          if z_ib a3 5 = true then
          z_let (z_u s2.2 47 a3.toNatClampNeg s2.1) fun τ6 =>
          (f_St_fittingRow_44 a1 a2 τ6).bind fun r7 =>
          if r7.1 = r1.1 then
            some (.inr (.inr (s2.1, r7.2)))
          else
            some (.inl ((s2.1 + (1 : Int32)), r7.2))
          else none
    ) ((0 : Int32), r1.2)).bind (fun bb => match bb with
    | .inl b2 =>
      some ((-4 : Int32), b2)
    | .inr g => some g)
/-- SeasonYard.sure(III)I -/
noncomputable def f_Y_sure (a1 : Int32) (a2 : Int32) (a3 : Int32) (σ : zS) : Option (Int32 × zS) :=
  (f_Cr_isKind a1 σ).bind fun r1 =>
  if r1 = 0 then
    some ((-1 : Int32), σ)
  else
    (f_Y_isIn a2 (1 : Int32) (5 : Int32) σ).bind fun r3 =>
    if r3 = 0 then
      some ((-1 : Int32), σ)
    else
      (f_Y_isIn a3 (0 : Int32) (a2 - (1 : Int32)) σ).bind fun r5 =>
      if r5 = 0 then
        some ((-1 : Int32), σ)
      else
        (f_St_onlyOne_44 a1 a2 a3 σ).bind fun r7 =>
        some (r7.1, r7.2)
/-- SeasonYardModel.sure(III)I -/
noncomputable def f_M_sure (a1 : Int32) (a2 : Int32) (a3 : Int32) (σ : zS) : Option (Int32) :=
  (f_M_in (a1.toInt64) (0 : Int64) (4 : Int64) σ).bind fun r1 =>
  if r1 = 0 then
    some (-1 : Int32)
  else
    (f_M_in (a2.toInt64) (1 : Int64) (5 : Int64) σ).bind fun r3 =>
    if r3 = 0 then
      some (-1 : Int32)
    else
      (f_M_in (a3.toInt64) (0 : Int64) ((a2 - (1 : Int32)).toInt64) σ).bind fun r5 =>
      if r5 = 0 then
        some (-1 : Int32)
      else
        (z_loop (S := Int32 × Int32) (β := Int32) (fun s7 =>
            (f_M_power a2 σ).bind fun r8 =>
            if r8 ≤ s7.2 then
              some (.inr s7.1)
            else
              (f_M_rowFits a1 a2 s7.2 σ).bind fun r10 =>
              z_join (T := Int32 × Int32) (fun t11 =>
                  some (.inl ((t11.2 ||| t11.1), (s7.2 + (1 : Int32))))
                ) (fun j11 =>
                  if r10 = 0 then
                    j11 ((0 : Int32), s7.1)
                  else
                    (f_M_power ((a2 - (1 : Int32)) - a3) σ).bind fun r13 =>
                    if r13 = 0 then none else
                    j11 (((1 : Int32) <<< (((s7.2 / r13) - (s7.2 / r13) / (5 : Int32) * (5 : Int32)) &&& 31)), s7.1)
                )
          ) ((0 : Int32), (0 : Int32))).bind (fun b7 =>
            (z_loop (S := Int32) (β := (Unit) ⊕ (Int32)) (fun s15 =>
                if (5 : Int32) ≤ s15 then
                  some (.inr (.inl ()))
                else
                  if b7 = ((1 : Int32) <<< (s15 &&& 31)) then
                    some (.inr (.inr s15))
                  else
                    some (.inl (s15 + (1 : Int32)))
              ) (0 : Int32)).bind (fun bb => match bb with
              | .inl b15 =>
                some (-4 : Int32)
              | .inr g => some g)
          )
/-- SeasonYard.sown(I)I -/
noncomputable def f_Y_sown (a1 : Int32) (σ : zS) : Option (Int32 × zS) :=
  (f_Y_isIn a1 (1 : Int32) (5 : Int32) σ).bind fun r1 =>
  if r1 = 0 then
    some ((-1 : Int32), σ)
  else
    (z_loop (S := Int32 × Int32 × zS) (β := Int32 × zS) (fun s3 =>
        if (5 : Int32) ≤ s3.2.1 then
          some (.inr (s3.1, s3.2.2))
        else
          (f_St_fitting_44 s3.2.1 a1 s3.2.2).bind fun r5 =>
          z_join (T := Int32) (fun t6 =>
              some (.inl (t6, (s3.2.1 + (1 : Int32)), r5.2))
            ) (fun j6 =>
              if r5.1 ≤ 0 then
                j6 s3.1
              else
                z_let (s3.1 ||| ((1 : Int32) <<< (s3.2.1 &&& 31))) fun v8 =>
                j6 v8
            )
      ) ((0 : Int32), (0 : Int32), σ)).bind (fun b3 =>
        some (b3.1, b3.2)
      )
/-- SeasonYardModel.sown(I)I -/
noncomputable def f_M_sown (a1 : Int32) (σ : zS) : Option (Int32) :=
  (f_M_in (a1.toInt64) (1 : Int64) (5 : Int64) σ).bind fun r1 =>
  if r1 = 0 then
    some (-1 : Int32)
  else
    (z_loop (S := Int32 × Int32) (β := Int32) (fun s3 =>
        if (5 : Int32) ≤ s3.2 then
          some (.inr s3.1)
        else
          (z_loop (S := Int32 × Int32) (β := Int32) (fun s5 =>
              (f_M_power a1 σ).bind fun r6 =>
              if r6 ≤ s5.2 then
                some (.inr s5.1)
              else
                (f_M_rowFits s3.2 a1 s5.2 σ).bind fun r8 =>
                z_join (T := Int32 × Int32) (fun t9 =>
                    some (.inl ((t9.2 ||| t9.1), (s5.2 + (1 : Int32))))
                  ) (fun j9 =>
                    if r8 = 0 then
                      j9 ((0 : Int32), s5.1)
                    else
                      j9 (((1 : Int32) <<< (s3.2 &&& 31)), s5.1)
                  )
            ) (s3.1, (0 : Int32))).bind (fun b5 =>
              some (.inl (b5, (s3.2 + (1 : Int32))))
            )
      ) ((0 : Int32), (0 : Int32))).bind (fun b3 =>
        some b3
      )
/-- SeasonYard.nextSeed(I)I -/
noncomputable def f_Y_nextSeed (a0 : Int32) (σ : zS) : Option (Int32) :=
  some ((a0 * (1103515245 : Int32)) + (12345 : Int32))
/-- SeasonYard.bitsOf(I)I -/
noncomputable def f_Y_bitsOf (a0 : Int32) (σ : zS) : Option (Int32) :=
  some (((a0.toUInt32 >>> ((16 : Int32).toUInt32 &&& Int32.toUInt32 31)).toInt32) &&& (32767 : Int32))
/-- SeasonYard.drift(III)I -/
noncomputable def f_Y_drift (a1 : Int32) (a2 : Int32) (a3 : Int32) (σ : zS) : Option (Int32 × zS) :=
  (f_Y_isIn a2 (1 : Int32) (60 : Int32) σ).bind fun r1 =>
  if r1 = 0 then
    some ((-1 : Int32), σ)
  else
    (f_Y_isIn a3 (0 : Int32) (1 : Int32) σ).bind fun r3 =>
    if r3 = 0 then
      some ((-1 : Int32), σ)
    else
      (f_G_copyFrom_17_1 σ).bind fun r5 =>
      (f_G_cells_17 r5).bind fun r6 =>
      (z_loop (S := Int32 × Int32 × zS) (β := zS) (fun s7 =>
          if a2 ≤ s7.2.1 then
            some (.inr s7.2.2)
          else
            if r6 ≤ 0 then
              some (.inr s7.2.2)
            else
              (f_Y_nextSeed s7.1 s7.2.2).bind fun r10 =>
              (f_Y_bitsOf r10 s7.2.2).bind fun r11 =>
              if r6 = 0 then none else
              (f_Y_nextSeed r10 s7.2.2).bind fun r13 =>
              (f_Y_bitsOf r13 s7.2.2).bind fun r14 =>
              (f_G_set_17 (r11 - r11 / r6 * r6) (r14 - r14 / (4 : Int32) * (4 : Int32)) (2 : Int32) s7.2.2).bind fun r15 =>
              (f_G_goOn_17 (1 : Int32) r15).bind fun r16 =>
              some (.inl (r13, (s7.2.1 + (1 : Int32)), r16))
        ) (a1, (0 : Int32), r5)).bind (fun b7 =>
          if a3 = 0 then
            (f_Y_ripeInTrial b7).bind fun r18 =>
            some (r18, b7)
          else
            (f_Y_spoiledInTrial b7).bind fun r19 =>
            some (r19, b7)
        )
/-- SeasonYardModel.drift(III)I -/
noncomputable def f_M_drift (a1 : Int32) (a2 : Int32) (a3 : Int32) (σ : zS) : Option (Int32 × zS) :=
  (f_M_in (a2.toInt64) (1 : Int64) (60 : Int64) σ).bind fun r1 =>
  if r1 = 0 then
    some ((-1 : Int32), σ)
  else
    (f_M_in (a3.toInt64) (0 : Int64) (1 : Int64) σ).bind fun r3 =>
    if r3 = 0 then
      some ((-1 : Int32), σ)
    else
      (f_M_copies (0 : Int32) (440 : Int32) σ).bind fun r5 =>
      (z_loop (S := Int32 × Int32 × zS) (β := zS) (fun s6 =>
          if a2 ≤ s6.2.1 then
            some (.inr s6.2.2)
          else
            z_let ((s6.1 * (1103515245 : Int32)) + (12345 : Int32)) fun v8 =>
            if ((s6.2.2 90 1) * (s6.2.2 90 2)) = 0 then none else
            z_let (((v8 >>> ((16 : Int32) &&& 31)) &&& (32767 : Int32)) - ((v8 >>> ((16 : Int32) &&& 31)) &&& (32767 : Int32)) / ((s6.2.2 90 1) * (s6.2.2 90 2)) * ((s6.2.2 90 1) * (s6.2.2 90 2))) fun v10 =>
            z_let ((v8 * (1103515245 : Int32)) + (12345 : Int32)) fun v11 =>
            (f_M_lays (440 : Int32) v10 (((v11 >>> ((16 : Int32) &&& 31)) &&& (32767 : Int32)) - ((v11 >>> ((16 : Int32) &&& 31)) &&& (32767 : Int32)) / (4 : Int32) * (4 : Int32)) (2 : Int32) s6.2.2).bind fun r12 =>
            (f_M_weeks (440 : Int32) (1 : Int32) r12).bind fun r13 =>
            some (.inl (v11, (s6.2.1 + (1 : Int32)), r13))
        ) (a1, (0 : Int32), r5)).bind (fun b6 =>
          (f_M_triedBy (0 : Int32) a3 b6).bind fun r14 =>
          some (r14.1, r14.2)
        )
/-- SeasonYard$Laws.copyFrom(LSeasonYard$Laws;)V -/
noncomputable def f_Lw_copyFrom_56_7  (σ : zS) : Option (zS) :=
  z_let (z_cp σ 8 57 0 0 5) fun τ1 =>
  z_let (z_cp τ1 9 58 0 0 5) fun τ2 =>
  z_let (z_cp τ2 10 59 0 0 5) fun τ3 =>
  z_let (z_u τ3 56 3 (τ3 7 3)) fun τ4 =>
  some τ4
/-- SeasonYard$Shop.copyFrom(LSeasonYard$Shop;)V -/
noncomputable def f_Sp_copyFrom_60_11  (σ : zS) : Option (zS) :=
  z_let (z_cp σ 12 61 0 0 4) fun τ1 =>
  z_let (z_cp τ1 13 62 0 0 4) fun τ2 =>
  z_let (z_u τ2 60 2 (τ2 11 2)) fun τ3 =>
  some τ3
/-- SeasonYard$Garden.copyFrom(LSeasonYard$Garden;)V -/
noncomputable def f_G_copyFrom_50_1  (σ : zS) : Option (zS) :=
  z_let (z_u σ 50 0 (σ 1 0)) fun τ1 =>
  z_let (z_u τ1 50 1 (τ1 1 1)) fun τ2 =>
  z_let (z_cp τ2 2 51 0 0 16) fun τ3 =>
  z_let (z_cp τ3 3 52 0 0 16) fun τ4 =>
  z_let (z_cp τ4 4 53 0 0 16) fun τ5 =>
  z_let (z_cp τ5 5 54 0 0 16) fun τ6 =>
  z_let (z_cp τ6 6 55 0 0 16) fun τ7 =>
  z_let (z_u τ7 50 7 (τ7 1 7)) fun τ8 =>
  (f_Lw_copyFrom_56_7 τ8).bind fun r9 =>
  (f_Sp_copyFrom_60_11 r9).bind fun r10 =>
  z_let (z_u r10 50 10 (r10 1 10)) fun τ11 =>
  z_let (z_cp τ11 14 63 0 0 3) fun τ12 =>
  z_let (z_u τ12 50 12 (τ12 1 12)) fun τ13 =>
  z_let (z_u τ13 50 13 (τ13 1 13)) fun τ14 =>
  some τ14
/-- SeasonYard$Laws.copyFrom(LSeasonYard$Laws;)V -/
noncomputable def f_Lw_copyFrom_72_7  (σ : zS) : Option (zS) :=
  z_let (z_cp σ 8 73 0 0 5) fun τ1 =>
  z_let (z_cp τ1 9 74 0 0 5) fun τ2 =>
  z_let (z_cp τ2 10 75 0 0 5) fun τ3 =>
  z_let (z_u τ3 72 3 (τ3 7 3)) fun τ4 =>
  some τ4
/-- SeasonYard$Shop.copyFrom(LSeasonYard$Shop;)V -/
noncomputable def f_Sp_copyFrom_76_11  (σ : zS) : Option (zS) :=
  z_let (z_cp σ 12 77 0 0 4) fun τ1 =>
  z_let (z_cp τ1 13 78 0 0 4) fun τ2 =>
  z_let (z_u τ2 76 2 (τ2 11 2)) fun τ3 =>
  some τ3
/-- SeasonYard$Garden.copyFrom(LSeasonYard$Garden;)V -/
noncomputable def f_G_copyFrom_66_1  (σ : zS) : Option (zS) :=
  z_let (z_u σ 66 0 (σ 1 0)) fun τ1 =>
  z_let (z_u τ1 66 1 (τ1 1 1)) fun τ2 =>
  z_let (z_cp τ2 2 67 0 0 16) fun τ3 =>
  z_let (z_cp τ3 3 68 0 0 16) fun τ4 =>
  z_let (z_cp τ4 4 69 0 0 16) fun τ5 =>
  z_let (z_cp τ5 5 70 0 0 16) fun τ6 =>
  z_let (z_cp τ6 6 71 0 0 16) fun τ7 =>
  z_let (z_u τ7 66 7 (τ7 1 7)) fun τ8 =>
  (f_Lw_copyFrom_72_7 τ8).bind fun r9 =>
  (f_Sp_copyFrom_76_11 r9).bind fun r10 =>
  z_let (z_u r10 66 10 (r10 1 10)) fun τ11 =>
  z_let (z_cp τ11 14 79 0 0 3) fun τ12 =>
  z_let (z_u τ12 66 12 (τ12 1 12)) fun τ13 =>
  z_let (z_u τ13 66 13 (τ13 1 13)) fun τ14 =>
  some τ14
/-- SeasonYard.keep(I)I -/
noncomputable def f_Y_keep (a1 : Int32) (σ : zS) : Option (Int32 × zS) :=
  (f_Y_isIn a1 (0 : Int32) (1 : Int32) σ).bind fun r1 =>
  if r1 = 0 then
    some ((-1 : Int32), σ)
  else
    z_let ((((σ 0 8).toUInt32 >>> (a1.toUInt32 &&& Int32.toUInt32 31)).toInt32) &&& (1 : Int32)) fun v3 =>
    if a1 = 0 then
      (f_G_copyFrom_50_1 σ).bind fun r4 =>
      z_let (z_u r4 0 8 ((r4 0 8) ||| ((1 : Int32) <<< (a1 &&& 31)))) fun τ5 =>
      some (v3, τ5)
    else
    if a1 = 1 then
      (f_G_copyFrom_66_1 σ).bind fun r6 =>
      z_let (z_u r6 0 8 ((r6 0 8) ||| ((1 : Int32) <<< (a1 &&& 31)))) fun τ7 =>
      some (v3, τ7)
    else
      none
/-- SeasonYardModel.keep(I)I -/
noncomputable def f_M_keep (a1 : Int32) (σ : zS) : Option (Int32 × zS) :=
  (f_M_in (a1.toInt64) (0 : Int64) (1 : Int64) σ).bind fun r1 =>
  if r1 = 0 then
    some ((-1 : Int32), σ)
  else
    (f_M_copies (0 : Int32) ((110 : Int32) * (a1 + (1 : Int32))) σ).bind fun r3 =>
    if z_ib a1 2 = true then
    z_join (T := Int32) (fun t5 =>
        if z_ib a1 2 = true then
        z_let (z_u r3 101 a1.toNatClampNeg (vp_nar .boolean (1 : Int32))) fun τ7 =>
        some (t5, τ7)
        else none
      ) (fun j5 =>
        if (r3 101 a1.toNatClampNeg) = 0 then
          j5 (0 : Int32)
        else
          j5 (1 : Int32)
      )
    else none
/-- SeasonYard$Laws.copyFrom(LSeasonYard$Laws;)V -/
noncomputable def f_Lw_copyFrom_7_56  (σ : zS) : Option (zS) :=
  z_let (z_cp σ 57 8 0 0 5) fun τ1 =>
  z_let (z_cp τ1 58 9 0 0 5) fun τ2 =>
  z_let (z_cp τ2 59 10 0 0 5) fun τ3 =>
  z_let (z_u τ3 7 3 (τ3 56 3)) fun τ4 =>
  some τ4
/-- SeasonYard$Shop.copyFrom(LSeasonYard$Shop;)V -/
noncomputable def f_Sp_copyFrom_11_60  (σ : zS) : Option (zS) :=
  z_let (z_cp σ 61 12 0 0 4) fun τ1 =>
  z_let (z_cp τ1 62 13 0 0 4) fun τ2 =>
  z_let (z_u τ2 11 2 (τ2 60 2)) fun τ3 =>
  some τ3
/-- SeasonYard$Garden.copyFrom(LSeasonYard$Garden;)V -/
noncomputable def f_G_copyFrom_1_50  (σ : zS) : Option (zS) :=
  z_let (z_u σ 1 0 (σ 50 0)) fun τ1 =>
  z_let (z_u τ1 1 1 (τ1 50 1)) fun τ2 =>
  z_let (z_cp τ2 51 2 0 0 16) fun τ3 =>
  z_let (z_cp τ3 52 3 0 0 16) fun τ4 =>
  z_let (z_cp τ4 53 4 0 0 16) fun τ5 =>
  z_let (z_cp τ5 54 5 0 0 16) fun τ6 =>
  z_let (z_cp τ6 55 6 0 0 16) fun τ7 =>
  z_let (z_u τ7 1 7 (τ7 50 7)) fun τ8 =>
  (f_Lw_copyFrom_7_56 τ8).bind fun r9 =>
  (f_Sp_copyFrom_11_60 r9).bind fun r10 =>
  z_let (z_u r10 1 10 (r10 50 10)) fun τ11 =>
  z_let (z_cp τ11 63 14 0 0 3) fun τ12 =>
  z_let (z_u τ12 1 12 (τ12 50 12)) fun τ13 =>
  z_let (z_u τ13 1 13 (τ13 50 13)) fun τ14 =>
  some τ14
/-- SeasonYard$Laws.copyFrom(LSeasonYard$Laws;)V -/
noncomputable def f_Lw_copyFrom_7_72  (σ : zS) : Option (zS) :=
  z_let (z_cp σ 73 8 0 0 5) fun τ1 =>
  z_let (z_cp τ1 74 9 0 0 5) fun τ2 =>
  z_let (z_cp τ2 75 10 0 0 5) fun τ3 =>
  z_let (z_u τ3 7 3 (τ3 72 3)) fun τ4 =>
  some τ4
/-- SeasonYard$Shop.copyFrom(LSeasonYard$Shop;)V -/
noncomputable def f_Sp_copyFrom_11_76  (σ : zS) : Option (zS) :=
  z_let (z_cp σ 77 12 0 0 4) fun τ1 =>
  z_let (z_cp τ1 78 13 0 0 4) fun τ2 =>
  z_let (z_u τ2 11 2 (τ2 76 2)) fun τ3 =>
  some τ3
/-- SeasonYard$Garden.copyFrom(LSeasonYard$Garden;)V -/
noncomputable def f_G_copyFrom_1_66  (σ : zS) : Option (zS) :=
  z_let (z_u σ 1 0 (σ 66 0)) fun τ1 =>
  z_let (z_u τ1 1 1 (τ1 66 1)) fun τ2 =>
  z_let (z_cp τ2 67 2 0 0 16) fun τ3 =>
  z_let (z_cp τ3 68 3 0 0 16) fun τ4 =>
  z_let (z_cp τ4 69 4 0 0 16) fun τ5 =>
  z_let (z_cp τ5 70 5 0 0 16) fun τ6 =>
  z_let (z_cp τ6 71 6 0 0 16) fun τ7 =>
  z_let (z_u τ7 1 7 (τ7 66 7)) fun τ8 =>
  (f_Lw_copyFrom_7_72 τ8).bind fun r9 =>
  (f_Sp_copyFrom_11_76 r9).bind fun r10 =>
  z_let (z_u r10 1 10 (r10 66 10)) fun τ11 =>
  z_let (z_cp τ11 79 14 0 0 3) fun τ12 =>
  z_let (z_u τ12 1 12 (τ12 66 12)) fun τ13 =>
  z_let (z_u τ13 1 13 (τ13 66 13)) fun τ14 =>
  some τ14
/-- SeasonYard.back(I)I -/
noncomputable def f_Y_back (a1 : Int32) (σ : zS) : Option (Int32 × zS) :=
  (f_Y_isIn a1 (0 : Int32) (1 : Int32) σ).bind fun r1 =>
  if r1 = 0 then
    some ((-1 : Int32), σ)
  else
    if ((((σ 0 8).toUInt32 >>> (a1.toUInt32 &&& Int32.toUInt32 31)).toInt32) &&& (1 : Int32)) = 0 then
      some ((-2 : Int32), σ)
    else
      if a1 = 0 then
        (f_G_copyFrom_1_50 σ).bind fun r4 =>
        some ((r4 1 10), r4)
      else
      if a1 = 1 then
        (f_G_copyFrom_1_66 σ).bind fun r5 =>
        some ((r5 1 10), r5)
      else
        none
/-- SeasonYardModel.back(I)I -/
noncomputable def f_M_back (a1 : Int32) (σ : zS) : Option (Int32 × zS) :=
  (f_M_in (a1.toInt64) (0 : Int64) (1 : Int64) σ).bind fun r1 =>
  if r1 = 0 then
    some ((-1 : Int32), σ)
  else
    if z_ib a1 2 = true then
    if (σ 101 a1.toNatClampNeg) = 0 then
      some ((-2 : Int32), σ)
    else
      (f_M_copies ((110 : Int32) * (a1 + (1 : Int32))) (0 : Int32) σ).bind fun r5 =>
      some ((r5 91 (105 : Int32).toNatClampNeg), r5)
    else none
/-- java/util/Arrays.fill([II)V -/
noncomputable def f_JA_fill_83 (a1 : Int32) (σ : zS) : Option (zS) :=
  (z_loop (S := Int32 × zS) (β := zS) (fun s1 =>
      if (40 : Int32) ≤ s1.1 then
        some (.inr s1.2)
      else
        if z_ib s1.1 40 = true then
        z_let (z_u s1.2 83 s1.1.toNatClampNeg a1) fun τ4 =>
        some (.inl ((s1.1 + (1 : Int32)), τ4))
        else none
    ) ((0 : Int32), σ)).bind (fun b1 =>
      some b1
    )
/-- SeasonYard$Sheet.begin(II)V -/
noncomputable def f_Sh_begin_82 (a1 : Int32) (a2 : Int32) (σ : zS) : Option (zS) :=
  z_let (z_u σ 82 1 a1) fun τ1 =>
  z_let (z_u τ1 82 2 a2) fun τ2 =>
  (f_JA_fill_83 (0 : Int32) τ2).bind fun r3 =>
  some r3
/-- java/util/Arrays.fill([II)V -/
noncomputable def f_JA_fill_85 (a1 : Int32) (σ : zS) : Option (zS) :=
  (z_loop (S := Int32 × zS) (β := zS) (fun s1 =>
      if (40 : Int32) ≤ s1.1 then
        some (.inr s1.2)
      else
        if z_ib s1.1 40 = true then
        z_let (z_u s1.2 85 s1.1.toNatClampNeg a1) fun τ4 =>
        some (.inl ((s1.1 + (1 : Int32)), τ4))
        else none
    ) ((0 : Int32), σ)).bind (fun b1 =>
      some b1
    )
/-- SeasonYard$Sheet.begin(II)V -/
noncomputable def f_Sh_begin_84 (a1 : Int32) (a2 : Int32) (σ : zS) : Option (zS) :=
  z_let (z_u σ 84 1 a1) fun τ1 =>
  z_let (z_u τ1 84 2 a2) fun τ2 =>
  (f_JA_fill_85 (0 : Int32) τ2).bind fun r3 =>
  some r3
/-- java/util/Arrays.fill([II)V -/
noncomputable def f_JA_fill_87 (a1 : Int32) (σ : zS) : Option (zS) :=
  (z_loop (S := Int32 × zS) (β := zS) (fun s1 =>
      if (40 : Int32) ≤ s1.1 then
        some (.inr s1.2)
      else
        if z_ib s1.1 40 = true then
        z_let (z_u s1.2 87 s1.1.toNatClampNeg a1) fun τ4 =>
        some (.inl ((s1.1 + (1 : Int32)), τ4))
        else none
    ) ((0 : Int32), σ)).bind (fun b1 =>
      some b1
    )
/-- SeasonYard$Sheet.begin(II)V -/
noncomputable def f_Sh_begin_86 (a1 : Int32) (a2 : Int32) (σ : zS) : Option (zS) :=
  z_let (z_u σ 86 1 a1) fun τ1 =>
  z_let (z_u τ1 86 2 a2) fun τ2 =>
  (f_JA_fill_87 (0 : Int32) τ2).bind fun r3 =>
  some r3
/-- java/util/Arrays.fill([II)V -/
noncomputable def f_JA_fill_89 (a1 : Int32) (σ : zS) : Option (zS) :=
  (z_loop (S := Int32 × zS) (β := zS) (fun s1 =>
      if (40 : Int32) ≤ s1.1 then
        some (.inr s1.2)
      else
        if z_ib s1.1 40 = true then
        z_let (z_u s1.2 89 s1.1.toNatClampNeg a1) fun τ4 =>
        some (.inl ((s1.1 + (1 : Int32)), τ4))
        else none
    ) ((0 : Int32), σ)).bind (fun b1 =>
      some b1
    )
/-- SeasonYard$Sheet.begin(II)V -/
noncomputable def f_Sh_begin_88 (a1 : Int32) (a2 : Int32) (σ : zS) : Option (zS) :=
  z_let (z_u σ 88 1 a1) fun τ1 =>
  z_let (z_u τ1 88 2 a2) fun τ2 =>
  (f_JA_fill_89 (0 : Int32) τ2).bind fun r3 =>
  some r3
/-- SeasonYard.sheet(III)I -/
noncomputable def f_Y_sheet (a1 : Int32) (a2 : Int32) (a3 : Int32) (σ : zS) : Option (Int32 × zS) :=
  (f_Y_isIn a1 (0 : Int32) (3 : Int32) σ).bind fun r1 =>
  if r1 = 0 then
    some ((-1 : Int32), σ)
  else
    (f_Y_isIn a2 (0 : Int32) (2 : Int32) σ).bind fun r3 =>
    if r3 = 0 then
      some ((-1 : Int32), σ)
    else
      if a3 ≤ (40 : Int32) then
        if 0 ≤ a3 then
          if a1 = 0 then
            (f_Sh_begin_82 a2 a3 σ).bind fun r7 =>
            some ((1 : Int32), r7)
          else
          if a1 = 1 then
            (f_Sh_begin_84 a2 a3 σ).bind fun r8 =>
            some ((1 : Int32), r8)
          else
          if a1 = 2 then
            (f_Sh_begin_86 a2 a3 σ).bind fun r9 =>
            some ((1 : Int32), r9)
          else
          if a1 = 3 then
            (f_Sh_begin_88 a2 a3 σ).bind fun r10 =>
            some ((1 : Int32), r10)
          else
            none
        else
          some ((-14 : Int32), σ)
      else
        some ((-1 : Int32), σ)
/-- SeasonYardModel.sheet(III)I -/
noncomputable def f_M_sheet (a1 : Int32) (a2 : Int32) (a3 : Int32) (σ : zS) : Option (Int32 × zS) :=
  (f_M_in (a1.toInt64) (0 : Int64) (3 : Int64) σ).bind fun r1 =>
  if r1 = 0 then
    some ((-1 : Int32), σ)
  else
    (f_M_in (a2.toInt64) (0 : Int64) (2 : Int64) σ).bind fun r3 =>
    if r3 = 0 then
      some ((-1 : Int32), σ)
    else
      if a3 ≤ (40 : Int32) then
        if 0 ≤ a3 then
          if z_ib a1 4 = true then
          z_let (z_u σ 102 a1.toNatClampNeg a2) fun τ8 =>
          if z_ib a1 4 = true then
          z_let (z_u τ8 103 a1.toNatClampNeg a3) fun τ10 =>
          (z_loop (S := Int32 × zS) (β := zS) (fun s11 =>
              if (40 : Int32) ≤ s11.1 then
                some (.inr s11.2)
              else
                if z_ib (((40 : Int32) * a1) + s11.1) 160 = true then
                z_let (z_u s11.2 104 (((40 : Int32) * a1) + s11.1).toNatClampNeg (0 : Int32)) fun τ14 =>
                some (.inl ((s11.1 + (1 : Int32)), τ14))
                else none
            ) ((0 : Int32), τ10)).bind (fun b11 =>
              some ((1 : Int32), b11)
            )
          else none
          else none
        else
          some ((-14 : Int32), σ)
      else
        some ((-1 : Int32), σ)
/-- SeasonYard$Sheet.isThere()Z -/
noncomputable def f_Sh_isThere_82  (σ : zS) : Option (Int32) :=
  if (σ 82 2) = (-4 : Int32) then
    some (0 : Int32)
  else
    some (1 : Int32)
/-- SeasonYard$Sheet.lowestBits(I)I -/
noncomputable def f_Sh_lowestBits_82 (a1 : Int32) (σ : zS) : Option (Int32) :=
  if (σ 82 1) = 0 then
    some (a1.toInt8.toInt32)
  else
    if (σ 82 1) = (1 : Int32) then
      some (a1.toInt16.toInt32)
    else
      some a1
/-- SeasonYard$Sheet.isThere()Z -/
noncomputable def f_Sh_isThere_84  (σ : zS) : Option (Int32) :=
  if (σ 84 2) = (-4 : Int32) then
    some (0 : Int32)
  else
    some (1 : Int32)
/-- SeasonYard$Sheet.lowestBits(I)I -/
noncomputable def f_Sh_lowestBits_84 (a1 : Int32) (σ : zS) : Option (Int32) :=
  if (σ 84 1) = 0 then
    some (a1.toInt8.toInt32)
  else
    if (σ 84 1) = (1 : Int32) then
      some (a1.toInt16.toInt32)
    else
      some a1
/-- SeasonYard$Sheet.isThere()Z -/
noncomputable def f_Sh_isThere_86  (σ : zS) : Option (Int32) :=
  if (σ 86 2) = (-4 : Int32) then
    some (0 : Int32)
  else
    some (1 : Int32)
/-- SeasonYard$Sheet.lowestBits(I)I -/
noncomputable def f_Sh_lowestBits_86 (a1 : Int32) (σ : zS) : Option (Int32) :=
  if (σ 86 1) = 0 then
    some (a1.toInt8.toInt32)
  else
    if (σ 86 1) = (1 : Int32) then
      some (a1.toInt16.toInt32)
    else
      some a1
/-- SeasonYard$Sheet.isThere()Z -/
noncomputable def f_Sh_isThere_88  (σ : zS) : Option (Int32) :=
  if (σ 88 2) = (-4 : Int32) then
    some (0 : Int32)
  else
    some (1 : Int32)
/-- SeasonYard$Sheet.lowestBits(I)I -/
noncomputable def f_Sh_lowestBits_88 (a1 : Int32) (σ : zS) : Option (Int32) :=
  if (σ 88 1) = 0 then
    some (a1.toInt8.toInt32)
  else
    if (σ 88 1) = (1 : Int32) then
      some (a1.toInt16.toInt32)
    else
      some a1
/-- SeasonYard.put(III)I -/
noncomputable def f_Y_put (a1 : Int32) (a2 : Int32) (a3 : Int32) (σ : zS) : Option (Int32 × zS) :=
  (f_Y_isIn a1 (0 : Int32) (3 : Int32) σ).bind fun r1 =>
  if r1 = 0 then
    some ((-1 : Int32), σ)
  else
    if a1 = 0 then
      (f_Sh_isThere_82 σ).bind fun r3 =>
      if r3 = 0 then
        some ((-11 : Int32), σ)
      else
        (f_Y_isIn a2 (0 : Int32) ((σ 82 2) - (1 : Int32)) σ).bind fun r5 =>
        if r5 = 0 then
          some ((-12 : Int32), σ)
        else
          (f_Sh_lowestBits_82 a3 σ).bind fun r7 =>
          if z_ib a2 40 = true then
          z_let (z_u σ 83 a2.toNatClampNeg r7) fun τ9 =>
          some ((1 : Int32), τ9)
          else none
    else
    if a1 = 1 then
      (f_Sh_isThere_84 σ).bind fun r10 =>
      if r10 = 0 then
        some ((-11 : Int32), σ)
      else
        (f_Y_isIn a2 (0 : Int32) ((σ 84 2) - (1 : Int32)) σ).bind fun r12 =>
        if r12 = 0 then
          some ((-12 : Int32), σ)
        else
          (f_Sh_lowestBits_84 a3 σ).bind fun r14 =>
          if z_ib a2 40 = true then
          z_let (z_u σ 85 a2.toNatClampNeg r14) fun τ16 =>
          some ((1 : Int32), τ16)
          else none
    else
    if a1 = 2 then
      (f_Sh_isThere_86 σ).bind fun r17 =>
      if r17 = 0 then
        some ((-11 : Int32), σ)
      else
        (f_Y_isIn a2 (0 : Int32) ((σ 86 2) - (1 : Int32)) σ).bind fun r19 =>
        if r19 = 0 then
          some ((-12 : Int32), σ)
        else
          (f_Sh_lowestBits_86 a3 σ).bind fun r21 =>
          if z_ib a2 40 = true then
          z_let (z_u σ 87 a2.toNatClampNeg r21) fun τ23 =>
          some ((1 : Int32), τ23)
          else none
    else
    if a1 = 3 then
      (f_Sh_isThere_88 σ).bind fun r24 =>
      if r24 = 0 then
        some ((-11 : Int32), σ)
      else
        (f_Y_isIn a2 (0 : Int32) ((σ 88 2) - (1 : Int32)) σ).bind fun r26 =>
        if r26 = 0 then
          some ((-12 : Int32), σ)
        else
          (f_Sh_lowestBits_88 a3 σ).bind fun r28 =>
          if z_ib a2 40 = true then
          z_let (z_u σ 89 a2.toNatClampNeg r28) fun τ30 =>
          some ((1 : Int32), τ30)
          else none
    else
      none
/-- SeasonYardModel.put(III)I -/
noncomputable def f_M_put (a1 : Int32) (a2 : Int32) (a3 : Int32) (σ : zS) : Option (Int32 × zS) :=
  (f_M_in (a1.toInt64) (0 : Int64) (3 : Int64) σ).bind fun r1 =>
  if r1 = 0 then
    some ((-1 : Int32), σ)
  else
    if z_ib a1 4 = true then
    if (σ 102 a1.toNatClampNeg) = (-4 : Int32) then
      some ((-11 : Int32), σ)
    else
      if z_ib a1 4 = true then
      (f_M_in (a2.toInt64) (0 : Int64) (((σ 103 a1.toNatClampNeg) - (1 : Int32)).toInt64) σ).bind fun r6 =>
      if r6 = 0 then
        some ((-12 : Int32), σ)
      else
        if z_ib a1 4 = true then
        z_join (T := Int32 × Int32) (fun t9 =>
            if z_ib t9.2 160 = true then
            z_let (z_u σ 104 t9.2.toNatClampNeg t9.1) fun τ11 =>
            some ((1 : Int32), τ11)
            else none
          ) (fun j9 =>
            if (σ 102 a1.toNatClampNeg) = 0 then
              j9 (((a3 <<< ((24 : Int32) &&& 31)) >>> ((24 : Int32) &&& 31)), (((40 : Int32) * a1) + a2))
            else
              if z_ib a1 4 = true then
              if (σ 102 a1.toNatClampNeg) = (1 : Int32) then
                j9 (((a3 <<< ((16 : Int32) &&& 31)) >>> ((16 : Int32) &&& 31)), (((40 : Int32) * a1) + a2))
              else
                j9 (a3, (((40 : Int32) * a1) + a2))
              else none
          )
        else none
      else none
    else none
/-- SeasonYard$Sheet.hasThree(I)Z -/
noncomputable def f_Sh_hasThree_82 (a1 : Int32) (σ : zS) : Option (Int32) :=
  if a1 < 0 then
    some (0 : Int32)
  else
    if ((σ 82 2) - (3 : Int32)) < a1 then
      some (0 : Int32)
    else
      if (37 : Int32) < a1 then
        some (0 : Int32)
      else
        some (1 : Int32)
/-- SeasonYard$Shop.sells(II)Z -/
noncomputable def f_Sp_sells_27 (a1 : Int32) (a2 : Int32) (σ : zS) : Option (Int32) :=
  (f_Y_isSeason a1 σ).bind fun r1 =>
  if r1 = 0 then
    some (0 : Int32)
  else
    if z_ib a1 4 = true then
    if (σ 28 a1.toNatClampNeg) < a2 then
      some (0 : Int32)
    else
      if z_ib a1 4 = true then
      if (σ 27 2) < ((σ 29 a1.toNatClampNeg) * a2) then
        some (0 : Int32)
      else
        some (1 : Int32)
      else none
    else none
/-- SeasonYard$Shop.take(II)V -/
noncomputable def f_Sp_take_27 (a1 : Int32) (a2 : Int32) (σ : zS) : Option (zS) :=
  (f_Y_isSeason a1 σ).bind fun r1 =>
  if r1 = 0 then
    some σ
  else
    if z_ib a1 4 = true then
    if z_ib a1 4 = true then
    z_let (z_u σ 28 a1.toNatClampNeg ((σ 28 a1.toNatClampNeg) - a2)) fun τ5 =>
    if z_ib a1 4 = true then
    z_let (z_u τ5 27 2 ((τ5 27 2) - ((τ5 29 a1.toNatClampNeg) * a2))) fun τ7 =>
    some τ7
    else none
    else none
    else none
/-- SeasonYard$Garden.buyAndSet(III)I -/
noncomputable def f_G_buyAndSet_17 (a1 : Int32) (a2 : Int32) (a3 : Int32) (σ : zS) : Option (Int32 × zS) :=
  (f_G_hasCell_17 a1 σ).bind fun r1 =>
  if r1 = 0 then
    some ((-1 : Int32), σ)
  else
    (f_Y_isSeason a2 σ).bind fun r3 =>
    if r3 = 0 then
      some ((-1 : Int32), σ)
    else
      (f_Y_isIn a3 (1 : Int32) (9 : Int32) σ).bind fun r5 =>
      if r5 = 0 then
        some ((-1 : Int32), σ)
      else
        (f_Sp_sells_27 a2 a3 σ).bind fun r7 =>
        if r7 = 0 then
          some ((-2 : Int32), σ)
        else
          (f_Sp_take_27 a2 a3 σ).bind fun r9 =>
          (f_G_set_17 a1 a2 a3 r9).bind fun r10 =>
          some ((r10 27 2), r10)
/-- SeasonYard$Sheet.faultAs(I)I -/
noncomputable def f_Sh_faultAs_82 (a1 : Int32) (σ : zS) : Option (Int32) :=
  (f_Sh_isThere_82 σ).bind fun r1 =>
  if r1 = 0 then
    some (1 : Int32)
  else
    if a1 = (σ 82 1) then
      some (0 : Int32)
    else
      some (3 : Int32)
/-- SeasonYard$Sheet.hasThree(I)Z -/
noncomputable def f_Sh_hasThree_84 (a1 : Int32) (σ : zS) : Option (Int32) :=
  if a1 < 0 then
    some (0 : Int32)
  else
    if ((σ 84 2) - (3 : Int32)) < a1 then
      some (0 : Int32)
    else
      if (37 : Int32) < a1 then
        some (0 : Int32)
      else
        some (1 : Int32)
/-- SeasonYard$Sheet.faultAs(I)I -/
noncomputable def f_Sh_faultAs_84 (a1 : Int32) (σ : zS) : Option (Int32) :=
  (f_Sh_isThere_84 σ).bind fun r1 =>
  if r1 = 0 then
    some (1 : Int32)
  else
    if a1 = (σ 84 1) then
      some (0 : Int32)
    else
      some (3 : Int32)
/-- SeasonYard$Sheet.hasThree(I)Z -/
noncomputable def f_Sh_hasThree_86 (a1 : Int32) (σ : zS) : Option (Int32) :=
  if a1 < 0 then
    some (0 : Int32)
  else
    if ((σ 86 2) - (3 : Int32)) < a1 then
      some (0 : Int32)
    else
      if (37 : Int32) < a1 then
        some (0 : Int32)
      else
        some (1 : Int32)
/-- SeasonYard$Sheet.faultAs(I)I -/
noncomputable def f_Sh_faultAs_86 (a1 : Int32) (σ : zS) : Option (Int32) :=
  (f_Sh_isThere_86 σ).bind fun r1 =>
  if r1 = 0 then
    some (1 : Int32)
  else
    if a1 = (σ 86 1) then
      some (0 : Int32)
    else
      some (3 : Int32)
/-- SeasonYard$Sheet.hasThree(I)Z -/
noncomputable def f_Sh_hasThree_88 (a1 : Int32) (σ : zS) : Option (Int32) :=
  if a1 < 0 then
    some (0 : Int32)
  else
    if ((σ 88 2) - (3 : Int32)) < a1 then
      some (0 : Int32)
    else
      if (37 : Int32) < a1 then
        some (0 : Int32)
      else
        some (1 : Int32)
/-- SeasonYard$Sheet.faultAs(I)I -/
noncomputable def f_Sh_faultAs_88 (a1 : Int32) (σ : zS) : Option (Int32) :=
  (f_Sh_isThere_88 σ).bind fun r1 =>
  if r1 = 0 then
    some (1 : Int32)
  else
    if a1 = (σ 88 1) then
      some (0 : Int32)
    else
      some (3 : Int32)
/-- SeasonYard.read(IIII)I -/
noncomputable def f_Y_read (a1 : Int32) (a2 : Int32) (a3 : Int32) (a4 : Int32) (σ : zS) : Option (Int32 × zS) :=
  (f_Y_isIn a1 (0 : Int32) (3 : Int32) σ).bind fun r1 =>
  if r1 = 0 then
    some ((-1 : Int32), σ)
  else
    (f_Y_isIn a2 (0 : Int32) (2 : Int32) σ).bind fun r3 =>
    if r3 = 0 then
      some ((-1 : Int32), σ)
    else
      (f_Y_isIn a4 (0 : Int32) (13 : Int32) σ).bind fun r5 =>
      if r5 = 0 then
        some ((-1 : Int32), σ)
      else
        if a1 = 0 then
          z_join (T := Int32) (fun t7 =>
              (f_G_copyFrom_17_1 σ).bind fun r8 =>
              (z_loop (S := Int32 × Int32 × Int32 × zS) (β := (Int32 × Int32 × zS) ⊕ (Int32 × zS)) (fun s9 =>
                  if a4 ≤ s9.2.2.1 then
                    some (.inr (.inl (s9.1, s9.2.1, s9.2.2.2)))
                  else
                    if s9.1 = 0 then
                      z_let (a3 + ((3 : Int32) * s9.2.2.1)) fun v12 =>
                      (f_Sh_hasThree_82 v12 s9.2.2.2).bind fun r13 =>
                      z_join (T := Int32 × Int32 × zS) (fun t14 =>
                          some (.inl (t14.1, t14.2.1, (s9.2.2.1 + (1 : Int32)), t14.2.2))
                        ) (fun j14 =>
                          if r13 = 0 then
                            j14 ((2 : Int32), s9.2.1, s9.2.2.2)
                          else
                            if z_ib v12 40 = true then
                            if z_ib (v12 + (1 : Int32)) 40 = true then
                            if z_ib (v12 + (2 : Int32)) 40 = true then
                            (f_G_buyAndSet_17 (s9.2.2.2 83 v12.toNatClampNeg) (s9.2.2.2 83 (v12 + (1 : Int32)).toNatClampNeg) (s9.2.2.2 83 (v12 + (2 : Int32)).toNatClampNeg) s9.2.2.2).bind fun r19 =>
                            if 0 ≤ r19.1 then
                              j14 (s9.1, (s9.2.1 + (1 : Int32)), r19.2)
                            else
                              some (.inr (.inr (((-20 : Int32) - s9.2.2.1), r19.2)))
                            else none
                            else none
                            else none
                        )
                    else
                      some (.inr (.inl (s9.1, s9.2.1, s9.2.2.2)))
                ) (t7, (0 : Int32), (0 : Int32), r8)).bind (fun bb => match bb with
                | .inl b9 =>
                  (f_G_copyFrom_1_17 b9.2.2).bind fun r21 =>
                  z_let (z_u r21 0 10 b9.1) fun τ22 =>
                  some (b9.2.1, τ22)
                | .inr g => some g)
            ) (fun j7 =>
              if a4 = 0 then
                j7 (0 : Int32)
              else
                (f_Sh_faultAs_82 a2 σ).bind fun r24 =>
                j7 r24
            )
        else
        if a1 = 1 then
          z_join (T := Int32) (fun t25 =>
              (f_G_copyFrom_17_1 σ).bind fun r26 =>
              (z_loop (S := Int32 × Int32 × Int32 × zS) (β := (Int32 × Int32 × zS) ⊕ (Int32 × zS)) (fun s27 =>
                  if a4 ≤ s27.2.2.1 then
                    some (.inr (.inl (s27.1, s27.2.1, s27.2.2.2)))
                  else
                    if s27.1 = 0 then
                      z_let (a3 + ((3 : Int32) * s27.2.2.1)) fun v30 =>
                      (f_Sh_hasThree_84 v30 s27.2.2.2).bind fun r31 =>
                      z_join (T := Int32 × Int32 × zS) (fun t32 =>
                          some (.inl (t32.1, t32.2.1, (s27.2.2.1 + (1 : Int32)), t32.2.2))
                        ) (fun j32 =>
                          if r31 = 0 then
                            j32 ((2 : Int32), s27.2.1, s27.2.2.2)
                          else
                            if z_ib v30 40 = true then
                            if z_ib (v30 + (1 : Int32)) 40 = true then
                            if z_ib (v30 + (2 : Int32)) 40 = true then
                            (f_G_buyAndSet_17 (s27.2.2.2 85 v30.toNatClampNeg) (s27.2.2.2 85 (v30 + (1 : Int32)).toNatClampNeg) (s27.2.2.2 85 (v30 + (2 : Int32)).toNatClampNeg) s27.2.2.2).bind fun r37 =>
                            if 0 ≤ r37.1 then
                              j32 (s27.1, (s27.2.1 + (1 : Int32)), r37.2)
                            else
                              some (.inr (.inr (((-20 : Int32) - s27.2.2.1), r37.2)))
                            else none
                            else none
                            else none
                        )
                    else
                      some (.inr (.inl (s27.1, s27.2.1, s27.2.2.2)))
                ) (t25, (0 : Int32), (0 : Int32), r26)).bind (fun bb => match bb with
                | .inl b27 =>
                  (f_G_copyFrom_1_17 b27.2.2).bind fun r39 =>
                  z_let (z_u r39 0 10 b27.1) fun τ40 =>
                  some (b27.2.1, τ40)
                | .inr g => some g)
            ) (fun j25 =>
              if a4 = 0 then
                j25 (0 : Int32)
              else
                (f_Sh_faultAs_84 a2 σ).bind fun r42 =>
                j25 r42
            )
        else
        if a1 = 2 then
          z_join (T := Int32) (fun t43 =>
              (f_G_copyFrom_17_1 σ).bind fun r44 =>
              (z_loop (S := Int32 × Int32 × Int32 × zS) (β := (Int32 × Int32 × zS) ⊕ (Int32 × zS)) (fun s45 =>
                  if a4 ≤ s45.2.2.1 then
                    some (.inr (.inl (s45.1, s45.2.1, s45.2.2.2)))
                  else
                    if s45.1 = 0 then
                      z_let (a3 + ((3 : Int32) * s45.2.2.1)) fun v48 =>
                      (f_Sh_hasThree_86 v48 s45.2.2.2).bind fun r49 =>
                      z_join (T := Int32 × Int32 × zS) (fun t50 =>
                          some (.inl (t50.1, t50.2.1, (s45.2.2.1 + (1 : Int32)), t50.2.2))
                        ) (fun j50 =>
                          if r49 = 0 then
                            j50 ((2 : Int32), s45.2.1, s45.2.2.2)
                          else
                            if z_ib v48 40 = true then
                            if z_ib (v48 + (1 : Int32)) 40 = true then
                            if z_ib (v48 + (2 : Int32)) 40 = true then
                            (f_G_buyAndSet_17 (s45.2.2.2 87 v48.toNatClampNeg) (s45.2.2.2 87 (v48 + (1 : Int32)).toNatClampNeg) (s45.2.2.2 87 (v48 + (2 : Int32)).toNatClampNeg) s45.2.2.2).bind fun r55 =>
                            if 0 ≤ r55.1 then
                              j50 (s45.1, (s45.2.1 + (1 : Int32)), r55.2)
                            else
                              some (.inr (.inr (((-20 : Int32) - s45.2.2.1), r55.2)))
                            else none
                            else none
                            else none
                        )
                    else
                      some (.inr (.inl (s45.1, s45.2.1, s45.2.2.2)))
                ) (t43, (0 : Int32), (0 : Int32), r44)).bind (fun bb => match bb with
                | .inl b45 =>
                  (f_G_copyFrom_1_17 b45.2.2).bind fun r57 =>
                  z_let (z_u r57 0 10 b45.1) fun τ58 =>
                  some (b45.2.1, τ58)
                | .inr g => some g)
            ) (fun j43 =>
              if a4 = 0 then
                j43 (0 : Int32)
              else
                (f_Sh_faultAs_86 a2 σ).bind fun r60 =>
                j43 r60
            )
        else
        if a1 = 3 then
          z_join (T := Int32) (fun t61 =>
              (f_G_copyFrom_17_1 σ).bind fun r62 =>
              (z_loop (S := Int32 × Int32 × Int32 × zS) (β := (Int32 × Int32 × zS) ⊕ (Int32 × zS)) (fun s63 =>
                  if a4 ≤ s63.2.2.1 then
                    some (.inr (.inl (s63.1, s63.2.1, s63.2.2.2)))
                  else
                    if s63.1 = 0 then
                      z_let (a3 + ((3 : Int32) * s63.2.2.1)) fun v66 =>
                      (f_Sh_hasThree_88 v66 s63.2.2.2).bind fun r67 =>
                      z_join (T := Int32 × Int32 × zS) (fun t68 =>
                          some (.inl (t68.1, t68.2.1, (s63.2.2.1 + (1 : Int32)), t68.2.2))
                        ) (fun j68 =>
                          if r67 = 0 then
                            j68 ((2 : Int32), s63.2.1, s63.2.2.2)
                          else
                            if z_ib v66 40 = true then
                            if z_ib (v66 + (1 : Int32)) 40 = true then
                            if z_ib (v66 + (2 : Int32)) 40 = true then
                            (f_G_buyAndSet_17 (s63.2.2.2 89 v66.toNatClampNeg) (s63.2.2.2 89 (v66 + (1 : Int32)).toNatClampNeg) (s63.2.2.2 89 (v66 + (2 : Int32)).toNatClampNeg) s63.2.2.2).bind fun r73 =>
                            if 0 ≤ r73.1 then
                              j68 (s63.1, (s63.2.1 + (1 : Int32)), r73.2)
                            else
                              some (.inr (.inr (((-20 : Int32) - s63.2.2.1), r73.2)))
                            else none
                            else none
                            else none
                        )
                    else
                      some (.inr (.inl (s63.1, s63.2.1, s63.2.2.2)))
                ) (t61, (0 : Int32), (0 : Int32), r62)).bind (fun bb => match bb with
                | .inl b63 =>
                  (f_G_copyFrom_1_17 b63.2.2).bind fun r75 =>
                  z_let (z_u r75 0 10 b63.1) fun τ76 =>
                  some (b63.2.1, τ76)
                | .inr g => some g)
            ) (fun j61 =>
              if a4 = 0 then
                j61 (0 : Int32)
              else
                (f_Sh_faultAs_88 a2 σ).bind fun r78 =>
                j61 r78
            )
        else
          none
/-- SeasonYardModel.read(IIII)I -/
noncomputable def f_M_read (a1 : Int32) (a2 : Int32) (a3 : Int32) (a4 : Int32) (σ : zS) : Option (Int32 × zS) :=
  (f_M_in (a1.toInt64) (0 : Int64) (3 : Int64) σ).bind fun r1 =>
  if r1 = 0 then
    some ((-1 : Int32), σ)
  else
    (f_M_in (a2.toInt64) (0 : Int64) (2 : Int64) σ).bind fun r3 =>
    if r3 = 0 then
      some ((-1 : Int32), σ)
    else
      (f_M_in (a4.toInt64) (0 : Int64) (13 : Int64) σ).bind fun r5 =>
      if r5 = 0 then
        some ((-1 : Int32), σ)
      else
        (f_M_copies (0 : Int32) (330 : Int32) σ).bind fun r7 =>
        (z_loop (S := Int32 × Int32 × Int32 × zS) (β := (Int32 × Int32 × zS) ⊕ (Int32 × zS)) (fun s8 =>
            if ((3 : Int32) * a4) ≤ s8.2.2.1 then
              some (.inr (.inl (s8.1, s8.2.1, s8.2.2.2)))
            else
              if s8.1 = 0 then
                if z_ib a1 4 = true then
                z_join (T := Int32) (fun t12 =>
                    z_join (T := Int32 × zS) (fun t13 =>
                        some (.inl (t12, t13.1, (s8.2.2.1 + (1 : Int32)), t13.2))
                      ) (fun j13 =>
                        if t12 = 0 then
                          if (s8.2.2.1 - s8.2.2.1 / (3 : Int32) * (3 : Int32)) = (2 : Int32) then
                            z_let ((((40 : Int32) * a1) + a3) + s8.2.2.1) fun v16 =>
                            if z_ib (v16 - (2 : Int32)) 160 = true then
                            if z_ib (v16 - (1 : Int32)) 160 = true then
                            if z_ib v16 160 = true then
                            (f_M_buys (s8.2.2.2 104 (v16 - (2 : Int32)).toNatClampNeg) (s8.2.2.2 104 (v16 - (1 : Int32)).toNatClampNeg) (s8.2.2.2 104 v16.toNatClampNeg) s8.2.2.2).bind fun r20 =>
                            if 0 ≤ r20.1 then
                              j13 ((s8.2.1 + (1 : Int32)), r20.2)
                            else
                              (f_M_copies (330 : Int32) (0 : Int32) r20.2).bind fun r22 =>
                              some (.inr (.inr (((-20 : Int32) - s8.2.1), r22)))
                            else none
                            else none
                            else none
                          else
                            j13 (s8.2.1, s8.2.2.2)
                        else
                          j13 (s8.2.1, s8.2.2.2)
                      )
                  ) (fun j12 =>
                    if (s8.2.2.2 102 a1.toNatClampNeg) = (-4 : Int32) then
                      j12 (1 : Int32)
                    else
                      if z_ib a1 4 = true then
                      if (s8.2.2.2 102 a1.toNatClampNeg) = a2 then
                        if z_ib a1 4 = true then
                        (f_M_in ((a3.toInt64) + (s8.2.2.1.toInt64)) (0 : Int64) (((s8.2.2.2 103 a1.toNatClampNeg) - (1 : Int32)).toInt64) s8.2.2.2).bind fun r27 =>
                        if r27 = 0 then
                          j12 (2 : Int32)
                        else
                          j12 (0 : Int32)
                        else none
                      else
                        j12 (3 : Int32)
                      else none
                  )
                else none
              else
                some (.inr (.inl (s8.1, s8.2.1, s8.2.2.2)))
          ) ((0 : Int32), (0 : Int32), (0 : Int32), r7)).bind (fun bb => match bb with
          | .inl b8 =>
            z_let (z_u b8.2.2 90 31 b8.1) fun τ29 =>
            some (b8.2.1, τ29)
          | .inr g => some g)
/-- SeasonYard.torn()I -/
noncomputable def f_Y_torn  (σ : zS) : Option (Int32) :=
  some (σ 0 10)
/-- SeasonYardModel.torn()I -/
noncomputable def f_M_torn  (σ : zS) : Option (Int32) :=
  some (σ 90 31)
/-- SeasonYard$Garden.bareCells()I -/
noncomputable def f_G_bareCells_1  (σ : zS) : Option (Int32) :=
  (z_loop (S := Int32 × Int32) (β := Int32) (fun s1 =>
      (f_G_cells_1 σ).bind fun r2 =>
      if r2 ≤ s1.2 then
        some (.inr s1.1)
      else
        if z_ib s1.2 16 = true then
        z_join (T := Int32 × Int32) (fun t5 =>
            some (.inl ((t5.2 + t5.1), (s1.2 + (1 : Int32))))
          ) (fun j5 =>
            if (σ 2 s1.2.toNatClampNeg) = (4 : Int32) then
              j5 ((1 : Int32), s1.1)
            else
              j5 ((0 : Int32), s1.1)
          )
        else none
    ) ((0 : Int32), (0 : Int32))).bind (fun b1 =>
      some b1
    )
/-- SeasonYard$Garden.cropsSown()I -/
noncomputable def f_G_cropsSown_1  (σ : zS) : Option (Int32) :=
  (z_loop (S := Int32 × Int32) (β := Int32) (fun s1 =>
      (f_G_cells_1 σ).bind fun r2 =>
      if r2 ≤ s1.2 then
        some (.inr s1.1)
      else
        if z_ib s1.2 16 = true then
        z_join (T := Int32 × Int32) (fun t5 =>
            some (.inl ((t5.2 + t5.1), (s1.2 + (1 : Int32))))
          ) (fun j5 =>
            if (σ 4 s1.2.toNatClampNeg) = (-4 : Int32) then
              j5 ((0 : Int32), s1.1)
            else
              j5 ((1 : Int32), s1.1)
          )
        else none
    ) ((0 : Int32), (0 : Int32))).bind (fun b1 =>
      some b1
    )
/-- SeasonYard$Garden.yardsInAll()I -/
noncomputable def f_G_yardsInAll_1  (σ : zS) : Option (Int32) :=
  (z_loop (S := Int32 × Int32) (β := Int32) (fun s1 =>
      (f_G_cells_1 σ).bind fun r2 =>
      if r2 ≤ s1.2 then
        some (.inr s1.1)
      else
        if z_ib s1.2 16 = true then
        z_let (s1.1 + (σ 3 s1.2.toNatClampNeg)) fun v5 =>
        some (.inl (v5, (s1.2 + (1 : Int32))))
        else none
    ) ((0 : Int32), (0 : Int32))).bind (fun b1 =>
      some b1
    )
/-- SeasonYard.count(I)I -/
noncomputable def f_Y_count (a1 : Int32) (σ : zS) : Option (Int32) :=
  if a1 = (0 : Int32) then
    some (σ 44 2)
  else
  if a1 = (1 : Int32) then
    (f_JI_bitCount (σ 0 8) σ).bind fun r3 =>
    some r3
  else
  if a1 = (2 : Int32) then
    some (σ 35 1)
  else
  if a1 = (3 : Int32) then
    (f_Sh_isThere_82 σ).bind fun r6 =>
    if r6 = 0 then
      some (-4 : Int32)
    else
      some (σ 82 2)
  else
  if a1 = (4 : Int32) then
    (f_G_bareCells_1 σ).bind fun r9 =>
    some r9
  else
  if a1 = (5 : Int32) then
    (f_G_cropsSown_1 σ).bind fun r11 =>
    some r11
  else
  if a1 = (6 : Int32) then
    (f_G_yardsInAll_1 σ).bind fun r13 =>
    some r13
  else
  if a1 = (7 : Int32) then
    (f_JI_bitCount (σ 1 7) σ).bind fun r15 =>
    some r15
  else
    some (-1 : Int32)
/-- SeasonYardModel.count(I)I -/
noncomputable def f_M_count (a1 : Int32) (σ : zS) : Option (Int32) :=
  (z_loop (S := Int32 × Int32 × Int32 × Int32) (β := Int32 × Int32 × Int32) (fun s1 =>
      if ((σ 90 1) * (σ 90 2)) ≤ s1.2.2.2 then
        some (.inr (s1.1, s1.2.1, s1.2.2.1))
      else
        (f_M_lies (0 : Int32) s1.2.2.2 σ).bind fun r3 =>
        z_join (T := Int32 × Int32) (fun t4 =>
            (f_M_cropIn (0 : Int32) s1.2.2.2 σ).bind fun r5 =>
            z_join (T := Int32 × Int32) (fun t6 =>
                if z_ib (((5 : Int32) * s1.2.2.2) + (1 : Int32)) 550 = true then
                z_let (s1.2.2.1 + (σ 91 (((5 : Int32) * s1.2.2.2) + (1 : Int32)).toNatClampNeg)) fun v8 =>
                some (.inl ((t4.2 + t4.1), (t6.2 + t6.1), v8, (s1.2.2.2 + (1 : Int32))))
                else none
              ) (fun j6 =>
                if r5 = (-4 : Int32) then
                  j6 ((0 : Int32), s1.2.1)
                else
                  j6 ((1 : Int32), s1.2.1)
              )
          ) (fun j4 =>
            if r3 = (4 : Int32) then
              j4 ((1 : Int32), s1.1)
            else
              j4 ((0 : Int32), s1.1)
          )
    ) ((0 : Int32), (0 : Int32), (0 : Int32), (0 : Int32))).bind (fun b1 =>
      (z_loop (S := Int32 × Int32) (β := Int32) (fun s11 =>
          if (32 : Int32) ≤ s11.2 then
            some (.inr s11.1)
          else
            z_let (s11.1 + (((σ 91 (80 : Int32).toNatClampNeg) >>> (s11.2 &&& 31)) &&& (1 : Int32))) fun v13 =>
            some (.inl (v13, (s11.2 + (1 : Int32))))
        ) ((0 : Int32), (0 : Int32))).bind (fun b11 =>
          if a1 = (0 : Int32) then
            some (σ 90 26)
          else
          if a1 = (1 : Int32) then
            z_join (T := Int32) (fun t16 =>
                z_join (T := Int32 × Int32) (fun t17 =>
                    some (t17.2 + t17.1)
                  ) (fun j17 =>
                    if (σ 101 (1 : Int32).toNatClampNeg) = 0 then
                      j17 ((0 : Int32), t16)
                    else
                      j17 ((1 : Int32), t16)
                  )
              ) (fun j16 =>
                if (σ 101 (0 : Int32).toNatClampNeg) = 0 then
                  j16 (0 : Int32)
                else
                  j16 (1 : Int32)
              )
          else
          if a1 = (2 : Int32) then
            some (σ 90 13)
          else
          if a1 = (3 : Int32) then
            if (σ 102 (0 : Int32).toNatClampNeg) = (-4 : Int32) then
              some (-4 : Int32)
            else
              some (σ 103 (0 : Int32).toNatClampNeg)
          else
          if a1 = (4 : Int32) then
            some b1.1
          else
          if a1 = (5 : Int32) then
            some b1.2.1
          else
          if a1 = (6 : Int32) then
            some b1.2.2
          else
          if a1 = (7 : Int32) then
            some b11
          else
            some (-1 : Int32)
        )
    )
/-- SeasonYardLaw.law([I)Z -/
noncomputable def f_L_law_4000 (xL : Nat) (xs : Nat → Int32) (σ : zS) : Option (Int32 × zS) :=
  (z_loop (S := Int32 × zS) (β := (zS) ⊕ (Int32 × zS)) (fun s1 =>
      if ((Int32.ofNat xL) - (5 : Int32)) < s1.1 then
        some (.inr (.inl s1.2))
      else
        if z_ib s1.1 xL = true then
        z_join (T := zS) (fun t4 =>
            some (.inl ((s1.1 + (5 : Int32)), t4))
          ) (fun j4 =>
            if ((xs s1.1.toNatClampNeg) &&& (63 : Int32)) = (0 : Int32) then
              if z_ib (s1.1 + (1 : Int32)) xL = true then
              (f_Y_feed (xs (s1.1 + (1 : Int32)).toNatClampNeg) s1.2).bind fun r7 =>
              if z_ib (s1.1 + (1 : Int32)) xL = true then
              (f_M_feed (xs (s1.1 + (1 : Int32)).toNatClampNeg) r7.2).bind fun r9 =>
              if r7.1 = r9.1 then
                j4 r9.2
              else
                some (.inr (.inr ((0 : Int32), r9.2)))
              else none
              else none
            else
            if ((xs s1.1.toNatClampNeg) &&& (63 : Int32)) = (1 : Int32) then
              if z_ib (s1.1 + (1 : Int32)) xL = true then
              (f_Y_end (xs (s1.1 + (1 : Int32)).toNatClampNeg) s1.2).bind fun r13 =>
              if z_ib (s1.1 + (1 : Int32)) xL = true then
              (f_M_end (xs (s1.1 + (1 : Int32)).toNatClampNeg) r13.2).bind fun r15 =>
              if r13.1 = r15.1 then
                j4 r15.2
              else
                some (.inr (.inr ((0 : Int32), r15.2)))
              else none
              else none
            else
            if ((xs s1.1.toNatClampNeg) &&& (63 : Int32)) = (2 : Int32) then
              (f_Y_text s1.2).bind fun r18 =>
              (f_M_text r18.2).bind fun r19 =>
              if r18.1 = r19.1 then
                j4 r19.2
              else
                some (.inr (.inr ((0 : Int32), r19.2)))
            else
            if ((xs s1.1.toNatClampNeg) &&& (63 : Int32)) = (3 : Int32) then
              (f_Y_fault s1.2).bind fun r22 =>
              (f_M_fault s1.2).bind fun r23 =>
              if r22 = r23 then
                j4 s1.2
              else
                some (.inr (.inr ((0 : Int32), s1.2)))
            else
            if ((xs s1.1.toNatClampNeg) &&& (63 : Int32)) = (4 : Int32) then
              if z_ib (s1.1 + (1 : Int32)) xL = true then
              (f_Y_rule (xs (s1.1 + (1 : Int32)).toNatClampNeg) s1.2).bind fun r27 =>
              if z_ib (s1.1 + (1 : Int32)) xL = true then
              (f_M_rule (xs (s1.1 + (1 : Int32)).toNatClampNeg) s1.2).bind fun r29 =>
              if r27 = r29 then
                j4 s1.2
              else
                some (.inr (.inr ((0 : Int32), s1.2)))
              else none
              else none
            else
            if ((xs s1.1.toNatClampNeg) &&& (63 : Int32)) = (5 : Int32) then
              if z_ib (s1.1 + (1 : Int32)) xL = true then
              if z_ib (s1.1 + (2 : Int32)) xL = true then
              (f_Y_cell (xs (s1.1 + (1 : Int32)).toNatClampNeg) (xs (s1.1 + (2 : Int32)).toNatClampNeg) s1.2).bind fun r34 =>
              if z_ib (s1.1 + (1 : Int32)) xL = true then
              if z_ib (s1.1 + (2 : Int32)) xL = true then
              (f_M_cell (xs (s1.1 + (1 : Int32)).toNatClampNeg) (xs (s1.1 + (2 : Int32)).toNatClampNeg) s1.2).bind fun r37 =>
              if r34 = r37 then
                j4 s1.2
              else
                some (.inr (.inr ((0 : Int32), s1.2)))
              else none
              else none
              else none
              else none
            else
            if ((xs s1.1.toNatClampNeg) &&& (63 : Int32)) = (6 : Int32) then
              if z_ib (s1.1 + (1 : Int32)) xL = true then
              (f_Y_edge (xs (s1.1 + (1 : Int32)).toNatClampNeg) s1.2).bind fun r41 =>
              if z_ib (s1.1 + (1 : Int32)) xL = true then
              (f_M_edge (xs (s1.1 + (1 : Int32)).toNatClampNeg) s1.2).bind fun r43 =>
              if r41 = r43 then
                j4 s1.2
              else
                some (.inr (.inr ((0 : Int32), s1.2)))
              else none
              else none
            else
            if ((xs s1.1.toNatClampNeg) &&& (63 : Int32)) = (7 : Int32) then
              if z_ib (s1.1 + (1 : Int32)) xL = true then
              if z_ib (s1.1 + (2 : Int32)) xL = true then
              (f_Y_stock (xs (s1.1 + (1 : Int32)).toNatClampNeg) (xs (s1.1 + (2 : Int32)).toNatClampNeg) s1.2).bind fun r48 =>
              if z_ib (s1.1 + (1 : Int32)) xL = true then
              if z_ib (s1.1 + (2 : Int32)) xL = true then
              (f_M_stock (xs (s1.1 + (1 : Int32)).toNatClampNeg) (xs (s1.1 + (2 : Int32)).toNatClampNeg) s1.2).bind fun r51 =>
              if r48 = r51 then
                j4 s1.2
              else
                some (.inr (.inr ((0 : Int32), s1.2)))
              else none
              else none
              else none
              else none
            else
            if ((xs s1.1.toNatClampNeg) &&& (63 : Int32)) = (8 : Int32) then
              if z_ib (s1.1 + (1 : Int32)) xL = true then
              if z_ib (s1.1 + (2 : Int32)) xL = true then
              (f_Y_law (xs (s1.1 + (1 : Int32)).toNatClampNeg) (xs (s1.1 + (2 : Int32)).toNatClampNeg) s1.2).bind fun r56 =>
              if z_ib (s1.1 + (1 : Int32)) xL = true then
              if z_ib (s1.1 + (2 : Int32)) xL = true then
              (f_M_law (xs (s1.1 + (1 : Int32)).toNatClampNeg) (xs (s1.1 + (2 : Int32)).toNatClampNeg) s1.2).bind fun r59 =>
              if r56 = r59 then
                j4 s1.2
              else
                some (.inr (.inr ((0 : Int32), s1.2)))
              else none
              else none
              else none
              else none
            else
            if ((xs s1.1.toNatClampNeg) &&& (63 : Int32)) = (9 : Int32) then
              if z_ib (s1.1 + (1 : Int32)) xL = true then
              (f_Y_ripe (xs (s1.1 + (1 : Int32)).toNatClampNeg) s1.2).bind fun r63 =>
              if z_ib (s1.1 + (1 : Int32)) xL = true then
              (f_M_ripe (xs (s1.1 + (1 : Int32)).toNatClampNeg) s1.2).bind fun r65 =>
              if r63 = r65 then
                j4 s1.2
              else
                some (.inr (.inr ((0 : Int32), s1.2)))
              else none
              else none
            else
            if ((xs s1.1.toNatClampNeg) &&& (63 : Int32)) = (10 : Int32) then
              if z_ib (s1.1 + (1 : Int32)) xL = true then
              if z_ib (s1.1 + (2 : Int32)) xL = true then
              if z_ib (s1.1 + (3 : Int32)) xL = true then
              (f_Y_lay (xs (s1.1 + (1 : Int32)).toNatClampNeg) (xs (s1.1 + (2 : Int32)).toNatClampNeg) (xs (s1.1 + (3 : Int32)).toNatClampNeg) s1.2).bind fun r71 =>
              if z_ib (s1.1 + (1 : Int32)) xL = true then
              if z_ib (s1.1 + (2 : Int32)) xL = true then
              if z_ib (s1.1 + (3 : Int32)) xL = true then
              (f_M_lay (xs (s1.1 + (1 : Int32)).toNatClampNeg) (xs (s1.1 + (2 : Int32)).toNatClampNeg) (xs (s1.1 + (3 : Int32)).toNatClampNeg) r71.2).bind fun r75 =>
              if r71.1 = r75.1 then
                j4 r75.2
              else
                some (.inr (.inr ((0 : Int32), r75.2)))
              else none
              else none
              else none
              else none
              else none
              else none
            else
            if ((xs s1.1.toNatClampNeg) &&& (63 : Int32)) = (11 : Int32) then
              if z_ib (s1.1 + (1 : Int32)) xL = true then
              (f_Y_bare (xs (s1.1 + (1 : Int32)).toNatClampNeg) s1.2).bind fun r79 =>
              if z_ib (s1.1 + (1 : Int32)) xL = true then
              (f_M_bare (xs (s1.1 + (1 : Int32)).toNatClampNeg) r79.2).bind fun r81 =>
              if r79.1 = r81.1 then
                j4 r81.2
              else
                some (.inr (.inr ((0 : Int32), r81.2)))
              else none
              else none
            else
            if ((xs s1.1.toNatClampNeg) &&& (63 : Int32)) = (12 : Int32) then
              if z_ib (s1.1 + (1 : Int32)) xL = true then
              if z_ib (s1.1 + (2 : Int32)) xL = true then
              (f_Y_sow (xs (s1.1 + (1 : Int32)).toNatClampNeg) (xs (s1.1 + (2 : Int32)).toNatClampNeg) s1.2).bind fun r86 =>
              if z_ib (s1.1 + (1 : Int32)) xL = true then
              if z_ib (s1.1 + (2 : Int32)) xL = true then
              (f_M_sow (xs (s1.1 + (1 : Int32)).toNatClampNeg) (xs (s1.1 + (2 : Int32)).toNatClampNeg) r86.2).bind fun r89 =>
              if r86.1 = r89.1 then
                j4 r89.2
              else
                some (.inr (.inr ((0 : Int32), r89.2)))
              else none
              else none
              else none
              else none
            else
            if ((xs s1.1.toNatClampNeg) &&& (63 : Int32)) = (13 : Int32) then
              if z_ib (s1.1 + (1 : Int32)) xL = true then
              if z_ib (s1.1 + (2 : Int32)) xL = true then
              (f_Y_own (xs (s1.1 + (1 : Int32)).toNatClampNeg) (xs (s1.1 + (2 : Int32)).toNatClampNeg) s1.2).bind fun r94 =>
              if z_ib (s1.1 + (1 : Int32)) xL = true then
              if z_ib (s1.1 + (2 : Int32)) xL = true then
              (f_M_own (xs (s1.1 + (1 : Int32)).toNatClampNeg) (xs (s1.1 + (2 : Int32)).toNatClampNeg) r94.2).bind fun r97 =>
              if r94.1 = r97.1 then
                j4 r97.2
              else
                some (.inr (.inr ((0 : Int32), r97.2)))
              else none
              else none
              else none
              else none
            else
            if ((xs s1.1.toNatClampNeg) &&& (63 : Int32)) = (14 : Int32) then
              if z_ib (s1.1 + (1 : Int32)) xL = true then
              if z_ib (s1.1 + (2 : Int32)) xL = true then
              z_join (T := Int32 × Int32) (fun t102 =>
                  (f_Y_wall t102.2 t102.1 s1.2).bind fun r103 =>
                  if z_ib (s1.1 + (1 : Int32)) xL = true then
                  if z_ib (s1.1 + (2 : Int32)) xL = true then
                  z_join (T := Int32 × Int32 × Int32) (fun t106 =>
                      (f_M_wall t106.2.1 t106.1 r103.2).bind fun r107 =>
                      if t106.2.2 = r107.1 then
                        j4 r107.2
                      else
                        some (.inr (.inr ((0 : Int32), r107.2)))
                    ) (fun j106 =>
                      if (xs (s1.1 + (2 : Int32)).toNatClampNeg) = 0 then
                        j106 ((0 : Int32), (xs (s1.1 + (1 : Int32)).toNatClampNeg), r103.1)
                      else
                        j106 ((1 : Int32), (xs (s1.1 + (1 : Int32)).toNatClampNeg), r103.1)
                    )
                  else none
                  else none
                ) (fun j102 =>
                  if (xs (s1.1 + (2 : Int32)).toNatClampNeg) = 0 then
                    j102 ((0 : Int32), (xs (s1.1 + (1 : Int32)).toNatClampNeg))
                  else
                    j102 ((1 : Int32), (xs (s1.1 + (1 : Int32)).toNatClampNeg))
                )
              else none
              else none
            else
            if ((xs s1.1.toNatClampNeg) &&& (63 : Int32)) = (15 : Int32) then
              if z_ib (s1.1 + (1 : Int32)) xL = true then
              if z_ib (s1.1 + (2 : Int32)) xL = true then
              (f_Y_store (xs (s1.1 + (1 : Int32)).toNatClampNeg) (xs (s1.1 + (2 : Int32)).toNatClampNeg) s1.2).bind fun r114 =>
              if z_ib (s1.1 + (1 : Int32)) xL = true then
              if z_ib (s1.1 + (2 : Int32)) xL = true then
              (f_M_store (xs (s1.1 + (1 : Int32)).toNatClampNeg) (xs (s1.1 + (2 : Int32)).toNatClampNeg) r114.2).bind fun r117 =>
              if r114.1 = r117.1 then
                j4 r117.2
              else
                some (.inr (.inr ((0 : Int32), r117.2)))
              else none
              else none
              else none
              else none
            else
            if ((xs s1.1.toNatClampNeg) &&& (63 : Int32)) = (16 : Int32) then
              if z_ib (s1.1 + (1 : Int32)) xL = true then
              if z_ib (s1.1 + (2 : Int32)) xL = true then
              (f_Y_price (xs (s1.1 + (1 : Int32)).toNatClampNeg) (xs (s1.1 + (2 : Int32)).toNatClampNeg) s1.2).bind fun r122 =>
              if z_ib (s1.1 + (1 : Int32)) xL = true then
              if z_ib (s1.1 + (2 : Int32)) xL = true then
              (f_M_price (xs (s1.1 + (1 : Int32)).toNatClampNeg) (xs (s1.1 + (2 : Int32)).toNatClampNeg) r122.2).bind fun r125 =>
              if r122.1 = r125.1 then
                j4 r125.2
              else
                some (.inr (.inr ((0 : Int32), r125.2)))
              else none
              else none
              else none
              else none
            else
            if ((xs s1.1.toNatClampNeg) &&& (63 : Int32)) = (17 : Int32) then
              if z_ib (s1.1 + (1 : Int32)) xL = true then
              (f_Y_fund (xs (s1.1 + (1 : Int32)).toNatClampNeg) s1.2).bind fun r129 =>
              if z_ib (s1.1 + (1 : Int32)) xL = true then
              (f_M_fund (xs (s1.1 + (1 : Int32)).toNatClampNeg) r129.2).bind fun r131 =>
              if r129.1 = r131.1 then
                j4 r131.2
              else
                some (.inr (.inr ((0 : Int32), r131.2)))
              else none
              else none
            else
            if ((xs s1.1.toNatClampNeg) &&& (63 : Int32)) = (18 : Int32) then
              if z_ib (s1.1 + (1 : Int32)) xL = true then
              if z_ib (s1.1 + (2 : Int32)) xL = true then
              (f_Y_bite (xs (s1.1 + (1 : Int32)).toNatClampNeg) (xs (s1.1 + (2 : Int32)).toNatClampNeg) s1.2).bind fun r136 =>
              if z_ib (s1.1 + (1 : Int32)) xL = true then
              if z_ib (s1.1 + (2 : Int32)) xL = true then
              (f_M_bite (xs (s1.1 + (1 : Int32)).toNatClampNeg) (xs (s1.1 + (2 : Int32)).toNatClampNeg) r136.2).bind fun r139 =>
              if r136.1 = r139.1 then
                j4 r139.2
              else
                some (.inr (.inr ((0 : Int32), r139.2)))
              else none
              else none
              else none
              else none
            else
            if ((xs s1.1.toNatClampNeg) &&& (63 : Int32)) = (19 : Int32) then
              if z_ib (s1.1 + (1 : Int32)) xL = true then
              (f_Y_week (xs (s1.1 + (1 : Int32)).toNatClampNeg) s1.2).bind fun r143 =>
              if z_ib (s1.1 + (1 : Int32)) xL = true then
              (f_M_week (xs (s1.1 + (1 : Int32)).toNatClampNeg) r143.2).bind fun r145 =>
              if r143.1 = r145.1 then
                j4 r145.2
              else
                some (.inr (.inr ((0 : Int32), r145.2)))
              else none
              else none
            else
            if ((xs s1.1.toNatClampNeg) &&& (63 : Int32)) = (20 : Int32) then
              if z_ib (s1.1 + (1 : Int32)) xL = true then
              if z_ib (s1.1 + (2 : Int32)) xL = true then
              if z_ib (s1.1 + (3 : Int32)) xL = true then
              (f_Y_ahead (xs (s1.1 + (1 : Int32)).toNatClampNeg) (xs (s1.1 + (2 : Int32)).toNatClampNeg) (xs (s1.1 + (3 : Int32)).toNatClampNeg) s1.2).bind fun r151 =>
              if z_ib (s1.1 + (1 : Int32)) xL = true then
              if z_ib (s1.1 + (2 : Int32)) xL = true then
              if z_ib (s1.1 + (3 : Int32)) xL = true then
              (f_M_ahead (xs (s1.1 + (1 : Int32)).toNatClampNeg) (xs (s1.1 + (2 : Int32)).toNatClampNeg) (xs (s1.1 + (3 : Int32)).toNatClampNeg) r151.2).bind fun r155 =>
              if r151.1 = r155.1 then
                j4 r155.2
              else
                some (.inr (.inr ((0 : Int32), r155.2)))
              else none
              else none
              else none
              else none
              else none
              else none
            else
            if ((xs s1.1.toNatClampNeg) &&& (63 : Int32)) = (21 : Int32) then
              (f_Y_spreads s1.2).bind fun r158 =>
              (f_M_spreads r158.2).bind fun r159 =>
              if r158.1 = r159 then
                j4 r158.2
              else
                some (.inr (.inr ((0 : Int32), r158.2)))
            else
            if ((xs s1.1.toNatClampNeg) &&& (63 : Int32)) = (22 : Int32) then
              if z_ib (s1.1 + (1 : Int32)) xL = true then
              if z_ib (s1.1 + (2 : Int32)) xL = true then
              (f_Y_comes (xs (s1.1 + (1 : Int32)).toNatClampNeg) (xs (s1.1 + (2 : Int32)).toNatClampNeg) s1.2).bind fun r164 =>
              if z_ib (s1.1 + (1 : Int32)) xL = true then
              if z_ib (s1.1 + (2 : Int32)) xL = true then
              (f_M_comes (xs (s1.1 + (1 : Int32)).toNatClampNeg) (xs (s1.1 + (2 : Int32)).toNatClampNeg) r164.2).bind fun r167 =>
              if r164.1 = r167.1 then
                j4 r167.2
              else
                some (.inr (.inr ((0 : Int32), r167.2)))
              else none
              else none
              else none
              else none
            else
            if ((xs s1.1.toNatClampNeg) &&& (63 : Int32)) = (23 : Int32) then
              if z_ib (s1.1 + (1 : Int32)) xL = true then
              (f_Y_when (xs (s1.1 + (1 : Int32)).toNatClampNeg) s1.2).bind fun r171 =>
              if z_ib (s1.1 + (1 : Int32)) xL = true then
              (f_M_when (xs (s1.1 + (1 : Int32)).toNatClampNeg) r171.2).bind fun r173 =>
              if r171.1 = r173.1 then
                j4 r173.2
              else
                some (.inr (.inr ((0 : Int32), r173.2)))
              else none
              else none
            else
            if ((xs s1.1.toNatClampNeg) &&& (63 : Int32)) = (24 : Int32) then
              (f_Y_again s1.2).bind fun r176 =>
              (f_M_again r176.2).bind fun r177 =>
              if r176.1 = r177.1 then
                j4 r177.2
              else
                some (.inr (.inr ((0 : Int32), r177.2)))
            else
            if ((xs s1.1.toNatClampNeg) &&& (63 : Int32)) = (25 : Int32) then
              if z_ib (s1.1 + (1 : Int32)) xL = true then
              if z_ib (s1.1 + (2 : Int32)) xL = true then
              if z_ib (s1.1 + (3 : Int32)) xL = true then
              (f_Y_plan (xs (s1.1 + (1 : Int32)).toNatClampNeg) (xs (s1.1 + (2 : Int32)).toNatClampNeg) (xs (s1.1 + (3 : Int32)).toNatClampNeg) s1.2).bind fun r183 =>
              if z_ib (s1.1 + (1 : Int32)) xL = true then
              if z_ib (s1.1 + (2 : Int32)) xL = true then
              if z_ib (s1.1 + (3 : Int32)) xL = true then
              (f_M_plan (xs (s1.1 + (1 : Int32)).toNatClampNeg) (xs (s1.1 + (2 : Int32)).toNatClampNeg) (xs (s1.1 + (3 : Int32)).toNatClampNeg) r183.2).bind fun r187 =>
              if r183.1 = r187.1 then
                j4 r187.2
              else
                some (.inr (.inr ((0 : Int32), r187.2)))
              else none
              else none
              else none
              else none
              else none
              else none
            else
            if ((xs s1.1.toNatClampNeg) &&& (63 : Int32)) = (26 : Int32) then
              if z_ib (s1.1 + (1 : Int32)) xL = true then
              if z_ib (s1.1 + (2 : Int32)) xL = true then
              (f_Y_most (xs (s1.1 + (1 : Int32)).toNatClampNeg) (xs (s1.1 + (2 : Int32)).toNatClampNeg) s1.2).bind fun r192 =>
              if z_ib (s1.1 + (1 : Int32)) xL = true then
              if z_ib (s1.1 + (2 : Int32)) xL = true then
              (f_M_most (xs (s1.1 + (1 : Int32)).toNatClampNeg) (xs (s1.1 + (2 : Int32)).toNatClampNeg) r192.2).bind fun r195 =>
              if r192.1 = r195.1 then
                j4 r195.2
              else
                some (.inr (.inr ((0 : Int32), r195.2)))
              else none
              else none
              else none
              else none
            else
            if ((xs s1.1.toNatClampNeg) &&& (63 : Int32)) = (27 : Int32) then
              if z_ib (s1.1 + (1 : Int32)) xL = true then
              if z_ib (s1.1 + (2 : Int32)) xL = true then
              (f_Y_fence (xs (s1.1 + (1 : Int32)).toNatClampNeg) (xs (s1.1 + (2 : Int32)).toNatClampNeg) s1.2).bind fun r200 =>
              if z_ib (s1.1 + (1 : Int32)) xL = true then
              if z_ib (s1.1 + (2 : Int32)) xL = true then
              (f_M_fence (xs (s1.1 + (1 : Int32)).toNatClampNeg) (xs (s1.1 + (2 : Int32)).toNatClampNeg) r200.2).bind fun r203 =>
              if r200.1 = r203.1 then
                j4 r203.2
              else
                some (.inr (.inr ((0 : Int32), r203.2)))
              else none
              else none
              else none
              else none
            else
            if ((xs s1.1.toNatClampNeg) &&& (63 : Int32)) = (28 : Int32) then
              if z_ib (s1.1 + (1 : Int32)) xL = true then
              if z_ib (s1.1 + (2 : Int32)) xL = true then
              (f_Y_blame (xs (s1.1 + (1 : Int32)).toNatClampNeg) (xs (s1.1 + (2 : Int32)).toNatClampNeg) s1.2).bind fun r208 =>
              if z_ib (s1.1 + (1 : Int32)) xL = true then
              if z_ib (s1.1 + (2 : Int32)) xL = true then
              (f_M_blame (xs (s1.1 + (1 : Int32)).toNatClampNeg) (xs (s1.1 + (2 : Int32)).toNatClampNeg) r208.2).bind fun r211 =>
              if r208.1 = r211.1 then
                j4 r211.2
              else
                some (.inr (.inr ((0 : Int32), r211.2)))
              else none
              else none
              else none
              else none
            else
            if ((xs s1.1.toNatClampNeg) &&& (63 : Int32)) = (29 : Int32) then
              if z_ib (s1.1 + (1 : Int32)) xL = true then
              if z_ib (s1.1 + (2 : Int32)) xL = true then
              if z_ib (s1.1 + (3 : Int32)) xL = true then
              if z_ib (s1.1 + (4 : Int32)) xL = true then
              (f_Y_luck (xs (s1.1 + (1 : Int32)).toNatClampNeg) (xs (s1.1 + (2 : Int32)).toNatClampNeg) (xs (s1.1 + (3 : Int32)).toNatClampNeg) (xs (s1.1 + (4 : Int32)).toNatClampNeg) s1.2).bind fun r218 =>
              if z_ib (s1.1 + (1 : Int32)) xL = true then
              if z_ib (s1.1 + (2 : Int32)) xL = true then
              if z_ib (s1.1 + (3 : Int32)) xL = true then
              if z_ib (s1.1 + (4 : Int32)) xL = true then
              (f_M_luck (xs (s1.1 + (1 : Int32)).toNatClampNeg) (xs (s1.1 + (2 : Int32)).toNatClampNeg) (xs (s1.1 + (3 : Int32)).toNatClampNeg) (xs (s1.1 + (4 : Int32)).toNatClampNeg) s1.2).bind fun r223 =>
              if (lg_cmp r218 r223) = 0 then
                j4 s1.2
              else
                some (.inr (.inr ((0 : Int32), s1.2)))
              else none
              else none
              else none
              else none
              else none
              else none
              else none
              else none
            else
            if ((xs s1.1.toNatClampNeg) &&& (63 : Int32)) = (30 : Int32) then
              if z_ib (s1.1 + (1 : Int32)) xL = true then
              if z_ib (s1.1 + (2 : Int32)) xL = true then
              (f_Y_see (xs (s1.1 + (1 : Int32)).toNatClampNeg) (xs (s1.1 + (2 : Int32)).toNatClampNeg) s1.2).bind fun r228 =>
              if z_ib (s1.1 + (1 : Int32)) xL = true then
              if z_ib (s1.1 + (2 : Int32)) xL = true then
              (f_M_see (xs (s1.1 + (1 : Int32)).toNatClampNeg) (xs (s1.1 + (2 : Int32)).toNatClampNeg) r228.2).bind fun r231 =>
              if r228.1 = r231.1 then
                j4 r231.2
              else
                some (.inr (.inr ((0 : Int32), r231.2)))
              else none
              else none
              else none
              else none
            else
            if ((xs s1.1.toNatClampNeg) &&& (63 : Int32)) = (31 : Int32) then
              if z_ib (s1.1 + (1 : Int32)) xL = true then
              (f_Y_forget (xs (s1.1 + (1 : Int32)).toNatClampNeg) s1.2).bind fun r235 =>
              if z_ib (s1.1 + (1 : Int32)) xL = true then
              (f_M_forget (xs (s1.1 + (1 : Int32)).toNatClampNeg) r235.2).bind fun r237 =>
              if r235.1 = r237.1 then
                j4 r237.2
              else
                some (.inr (.inr ((0 : Int32), r237.2)))
              else none
              else none
            else
            if ((xs s1.1.toNatClampNeg) &&& (63 : Int32)) = (32 : Int32) then
              if z_ib (s1.1 + (1 : Int32)) xL = true then
              if z_ib (s1.1 + (2 : Int32)) xL = true then
              if z_ib (s1.1 + (3 : Int32)) xL = true then
              (f_Y_rows (xs (s1.1 + (1 : Int32)).toNatClampNeg) (xs (s1.1 + (2 : Int32)).toNatClampNeg) (xs (s1.1 + (3 : Int32)).toNatClampNeg) s1.2).bind fun r243 =>
              if z_ib (s1.1 + (1 : Int32)) xL = true then
              if z_ib (s1.1 + (2 : Int32)) xL = true then
              if z_ib (s1.1 + (3 : Int32)) xL = true then
              (f_M_rows (xs (s1.1 + (1 : Int32)).toNatClampNeg) (xs (s1.1 + (2 : Int32)).toNatClampNeg) (xs (s1.1 + (3 : Int32)).toNatClampNeg) r243.2).bind fun r247 =>
              if r243.1 = r247 then
                j4 r243.2
              else
                some (.inr (.inr ((0 : Int32), r243.2)))
              else none
              else none
              else none
              else none
              else none
              else none
            else
            if ((xs s1.1.toNatClampNeg) &&& (63 : Int32)) = (33 : Int32) then
              if z_ib (s1.1 + (1 : Int32)) xL = true then
              if z_ib (s1.1 + (2 : Int32)) xL = true then
              if z_ib (s1.1 + (3 : Int32)) xL = true then
              (f_Y_sure (xs (s1.1 + (1 : Int32)).toNatClampNeg) (xs (s1.1 + (2 : Int32)).toNatClampNeg) (xs (s1.1 + (3 : Int32)).toNatClampNeg) s1.2).bind fun r253 =>
              if z_ib (s1.1 + (1 : Int32)) xL = true then
              if z_ib (s1.1 + (2 : Int32)) xL = true then
              if z_ib (s1.1 + (3 : Int32)) xL = true then
              (f_M_sure (xs (s1.1 + (1 : Int32)).toNatClampNeg) (xs (s1.1 + (2 : Int32)).toNatClampNeg) (xs (s1.1 + (3 : Int32)).toNatClampNeg) r253.2).bind fun r257 =>
              if r253.1 = r257 then
                j4 r253.2
              else
                some (.inr (.inr ((0 : Int32), r253.2)))
              else none
              else none
              else none
              else none
              else none
              else none
            else
            if ((xs s1.1.toNatClampNeg) &&& (63 : Int32)) = (34 : Int32) then
              if z_ib (s1.1 + (1 : Int32)) xL = true then
              (f_Y_sown (xs (s1.1 + (1 : Int32)).toNatClampNeg) s1.2).bind fun r261 =>
              if z_ib (s1.1 + (1 : Int32)) xL = true then
              (f_M_sown (xs (s1.1 + (1 : Int32)).toNatClampNeg) r261.2).bind fun r263 =>
              if r261.1 = r263 then
                j4 r261.2
              else
                some (.inr (.inr ((0 : Int32), r261.2)))
              else none
              else none
            else
            if ((xs s1.1.toNatClampNeg) &&& (63 : Int32)) = (35 : Int32) then
              if z_ib (s1.1 + (1 : Int32)) xL = true then
              if z_ib (s1.1 + (2 : Int32)) xL = true then
              if z_ib (s1.1 + (3 : Int32)) xL = true then
              (f_Y_drift (xs (s1.1 + (1 : Int32)).toNatClampNeg) (xs (s1.1 + (2 : Int32)).toNatClampNeg) (xs (s1.1 + (3 : Int32)).toNatClampNeg) s1.2).bind fun r269 =>
              if z_ib (s1.1 + (1 : Int32)) xL = true then
              if z_ib (s1.1 + (2 : Int32)) xL = true then
              if z_ib (s1.1 + (3 : Int32)) xL = true then
              (f_M_drift (xs (s1.1 + (1 : Int32)).toNatClampNeg) (xs (s1.1 + (2 : Int32)).toNatClampNeg) (xs (s1.1 + (3 : Int32)).toNatClampNeg) r269.2).bind fun r273 =>
              if r269.1 = r273.1 then
                j4 r273.2
              else
                some (.inr (.inr ((0 : Int32), r273.2)))
              else none
              else none
              else none
              else none
              else none
              else none
            else
            if ((xs s1.1.toNatClampNeg) &&& (63 : Int32)) = (36 : Int32) then
              if z_ib (s1.1 + (1 : Int32)) xL = true then
              (f_Y_keep (xs (s1.1 + (1 : Int32)).toNatClampNeg) s1.2).bind fun r277 =>
              if z_ib (s1.1 + (1 : Int32)) xL = true then
              (f_M_keep (xs (s1.1 + (1 : Int32)).toNatClampNeg) r277.2).bind fun r279 =>
              if r277.1 = r279.1 then
                j4 r279.2
              else
                some (.inr (.inr ((0 : Int32), r279.2)))
              else none
              else none
            else
            if ((xs s1.1.toNatClampNeg) &&& (63 : Int32)) = (37 : Int32) then
              if z_ib (s1.1 + (1 : Int32)) xL = true then
              (f_Y_back (xs (s1.1 + (1 : Int32)).toNatClampNeg) s1.2).bind fun r283 =>
              if z_ib (s1.1 + (1 : Int32)) xL = true then
              (f_M_back (xs (s1.1 + (1 : Int32)).toNatClampNeg) r283.2).bind fun r285 =>
              if r283.1 = r285.1 then
                j4 r285.2
              else
                some (.inr (.inr ((0 : Int32), r285.2)))
              else none
              else none
            else
            if ((xs s1.1.toNatClampNeg) &&& (63 : Int32)) = (38 : Int32) then
              if z_ib (s1.1 + (1 : Int32)) xL = true then
              if z_ib (s1.1 + (2 : Int32)) xL = true then
              if z_ib (s1.1 + (3 : Int32)) xL = true then
              (f_Y_sheet (xs (s1.1 + (1 : Int32)).toNatClampNeg) (xs (s1.1 + (2 : Int32)).toNatClampNeg) (xs (s1.1 + (3 : Int32)).toNatClampNeg) s1.2).bind fun r291 =>
              if z_ib (s1.1 + (1 : Int32)) xL = true then
              if z_ib (s1.1 + (2 : Int32)) xL = true then
              if z_ib (s1.1 + (3 : Int32)) xL = true then
              (f_M_sheet (xs (s1.1 + (1 : Int32)).toNatClampNeg) (xs (s1.1 + (2 : Int32)).toNatClampNeg) (xs (s1.1 + (3 : Int32)).toNatClampNeg) r291.2).bind fun r295 =>
              if r291.1 = r295.1 then
                j4 r295.2
              else
                some (.inr (.inr ((0 : Int32), r295.2)))
              else none
              else none
              else none
              else none
              else none
              else none
            else
            if ((xs s1.1.toNatClampNeg) &&& (63 : Int32)) = (39 : Int32) then
              if z_ib (s1.1 + (1 : Int32)) xL = true then
              if z_ib (s1.1 + (2 : Int32)) xL = true then
              if z_ib (s1.1 + (3 : Int32)) xL = true then
              (f_Y_put (xs (s1.1 + (1 : Int32)).toNatClampNeg) (xs (s1.1 + (2 : Int32)).toNatClampNeg) (xs (s1.1 + (3 : Int32)).toNatClampNeg) s1.2).bind fun r301 =>
              if z_ib (s1.1 + (1 : Int32)) xL = true then
              if z_ib (s1.1 + (2 : Int32)) xL = true then
              if z_ib (s1.1 + (3 : Int32)) xL = true then
              (f_M_put (xs (s1.1 + (1 : Int32)).toNatClampNeg) (xs (s1.1 + (2 : Int32)).toNatClampNeg) (xs (s1.1 + (3 : Int32)).toNatClampNeg) r301.2).bind fun r305 =>
              if r301.1 = r305.1 then
                j4 r305.2
              else
                some (.inr (.inr ((0 : Int32), r305.2)))
              else none
              else none
              else none
              else none
              else none
              else none
            else
            if ((xs s1.1.toNatClampNeg) &&& (63 : Int32)) = (40 : Int32) then
              if z_ib (s1.1 + (1 : Int32)) xL = true then
              if z_ib (s1.1 + (2 : Int32)) xL = true then
              if z_ib (s1.1 + (3 : Int32)) xL = true then
              if z_ib (s1.1 + (4 : Int32)) xL = true then
              (f_Y_read (xs (s1.1 + (1 : Int32)).toNatClampNeg) (xs (s1.1 + (2 : Int32)).toNatClampNeg) (xs (s1.1 + (3 : Int32)).toNatClampNeg) (xs (s1.1 + (4 : Int32)).toNatClampNeg) s1.2).bind fun r312 =>
              if z_ib (s1.1 + (1 : Int32)) xL = true then
              if z_ib (s1.1 + (2 : Int32)) xL = true then
              if z_ib (s1.1 + (3 : Int32)) xL = true then
              if z_ib (s1.1 + (4 : Int32)) xL = true then
              (f_M_read (xs (s1.1 + (1 : Int32)).toNatClampNeg) (xs (s1.1 + (2 : Int32)).toNatClampNeg) (xs (s1.1 + (3 : Int32)).toNatClampNeg) (xs (s1.1 + (4 : Int32)).toNatClampNeg) r312.2).bind fun r317 =>
              if r312.1 = r317.1 then
                j4 r317.2
              else
                some (.inr (.inr ((0 : Int32), r317.2)))
              else none
              else none
              else none
              else none
              else none
              else none
              else none
              else none
            else
            if ((xs s1.1.toNatClampNeg) &&& (63 : Int32)) = (41 : Int32) then
              (f_Y_torn s1.2).bind fun r320 =>
              (f_M_torn s1.2).bind fun r321 =>
              if r320 = r321 then
                j4 s1.2
              else
                some (.inr (.inr ((0 : Int32), s1.2)))
            else
            if ((xs s1.1.toNatClampNeg) &&& (63 : Int32)) = (42 : Int32) then
              if z_ib (s1.1 + (1 : Int32)) xL = true then
              (f_Y_count (xs (s1.1 + (1 : Int32)).toNatClampNeg) s1.2).bind fun r325 =>
              if z_ib (s1.1 + (1 : Int32)) xL = true then
              (f_M_count (xs (s1.1 + (1 : Int32)).toNatClampNeg) s1.2).bind fun r327 =>
              if r325 = r327 then
                j4 s1.2
              else
                some (.inr (.inr ((0 : Int32), s1.2)))
              else none
              else none
            else
              j4 s1.2
          )
        else none
    ) ((0 : Int32), σ)).bind (fun bb => match bb with
    | .inl b1 =>
      some ((1 : Int32), b1)
    | .inr g => some g)
