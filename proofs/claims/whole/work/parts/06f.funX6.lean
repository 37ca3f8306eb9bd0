def fX6_thrown (th : Int32) : Option Int32 :=
  some th
def fX6_fails (th : Int32) (p1 : Int32) : Option (Int32 × Int32) :=
  some (0, p1)
def jX6_in_14  : Option Int32 :=
  some 0
def fX6_in (p0 : Int32) (p1 : Int32) (p2 : Int32) : Option Int32 :=
  if p0 < p1 then
    jX6_in_14
  else
    if p2 < p0 then
      jX6_in_14
    else
      some 1
def fX6_least (p0 : Int32) (p1 : Int32) : Option Int32 :=
  if p1 ≤ p0 then
    some p1
  else
    some p0
def bX6_save_52 (k52 : bw_A1 → Int32 → Option (bw_A1 × Int32)) (z : bw_A1) (sm : Int32) (rows : bw_A1) (x1 : Int32) : Option (bw_A1 × Int32) :=
  if 444 ≤ x1 then
    bw_let ((sm + 1) : Int32) fun sm_93 =>
    some (rows, sm_93)
  else
    bw_b1 (bw_rd 444 z x1) fun v78 =>
    bw_b1 (bw_wr 2664 rows ((444 * sm) + x1) v78) fun rows_79 =>
    bw_let (x1 + 1 : Int32) fun x1_80 =>
    k52 rows_79 x1_80
def lX6_save_52 (z : bw_A1) (sm : Int32) : Nat → bw_A1 → Int32 → Option (bw_A1 × Int32)
  | 0 => fun _ _ => none
  | n + 1 => bX6_save_52  (lX6_save_52 z sm n) z sm
def jX6_save_50 (z : bw_A1) (rows : bw_A1) (sm : Int32) : Option (bw_A1 × Int32) :=
  lX6_save_52 z sm bw_fu rows 0
def bX6_save_11 (k11 : bw_A1 → Int32 → Option (bw_A1 × Int32)) (z : bw_A1) (sm : Int32) (rows : bw_A1) (x1 : Int32) : Option (bw_A1 × Int32) :=
  if 2220 ≤ x1 then
    bw_let ((sm - 1) : Int32) fun sm_47 =>
    jX6_save_50 z rows sm_47
  else
    bw_b1 (bw_rd 2664 rows (x1 + 444)) fun v32 =>
    bw_b1 (bw_wr 2664 rows x1 v32) fun rows_33 =>
    bw_let (x1 + 1 : Int32) fun x1_34 =>
    k11 rows_33 x1_34
def lX6_save_11 (z : bw_A1) (sm : Int32) : Nat → bw_A1 → Int32 → Option (bw_A1 × Int32)
  | 0 => fun _ _ => none
  | n + 1 => bX6_save_11  (lX6_save_11 z sm n) z sm
def fX6_save (z : bw_A1) (rows : bw_A1) (sm : Int32) : Option (bw_A1 × Int32) :=
  if sm = 6 then
    lX6_save_11 z sm bw_fu rows 0
  else
    jX6_save_50 z rows sm
def bX6_putAside_2 (k2 : bw_A1 → Int32 → Option bw_A1) (z : bw_A1) (asd : bw_A1) (x1 : Int32) : Option bw_A1 :=
  if 444 ≤ x1 then
    some asd
  else
    bw_b1 (bw_rd 444 z x1) fun v19 =>
    bw_b1 (bw_wr 444 asd x1 v19) fun asd_20 =>
    bw_let (x1 + 1 : Int32) fun x1_21 =>
    k2 asd_20 x1_21
def lX6_putAside_2 (z : bw_A1) : Nat → bw_A1 → Int32 → Option bw_A1
  | 0 => fun _ _ => none
  | n + 1 => bX6_putAside_2  (lX6_putAside_2 z n) z
def fX6_putAside (z : bw_A1) (asd : bw_A1) : Option bw_A1 :=
  lX6_putAside_2 z bw_fu asd 0
def bX6_putBack_2 (k2 : bw_A1 → Int32 → Option bw_A1) (asd : bw_A1) (z : bw_A1) (x1 : Int32) : Option bw_A1 :=
  if 444 ≤ x1 then
    some z
  else
    bw_b1 (bw_rd 444 asd x1) fun v19 =>
    bw_b1 (bw_wr 444 z x1 v19) fun z_20 =>
    bw_let (x1 + 1 : Int32) fun x1_21 =>
    k2 z_20 x1_21
def lX6_putBack_2 (asd : bw_A1) : Nat → bw_A1 → Int32 → Option bw_A1
  | 0 => fun _ _ => none
  | n + 1 => bX6_putBack_2  (lX6_putBack_2 asd n) asd
def fX6_putBack (z : bw_A1) (asd : bw_A1) : Option bw_A1 :=
  lX6_putBack_2 asd bw_fu z 0
def fX6_at (p0 : Int32) : Option Int32 :=
  some (6 + (58 * p0))
def fX6_loanAt (p0 : Int32) : Option Int32 :=
  some (354 + (3 * p0))
def fX6_isProject (z : bw_A1) (p1 : Int32) : Option Int32 :=
  bw_b1 (bw_rd 444 z 0) fun v7 =>
  bw_b1 (fX6_in p1 0 (v7 - 1)) fun r10 =>
  bw_bool r10 (some r10)
def fX6_isOpen (z : bw_A1) (p1 : Int32) : Option Int32 :=
  bw_b1 (fX6_at p1) fun r5 =>
  bw_b1 (bw_rd 444 z (r5 + 7)) fun v11 =>
  if v11 = 1 then
    some 1
  else
    some 0
def fX6_hasNext (z : bw_A1) (p1 : Int32) : Option Int32 :=
  bw_b1 (fX6_at p1) fun r5 =>
  bw_b1 (bw_rd 444 z (r5 + 6)) fun v11 =>
  bw_b1 (fX6_at p1) fun r17 =>
  bw_b1 (bw_rd 444 z (r17 + 5)) fun v22 =>
  if v22 ≤ v11 then
    some 0
  else
    some 1
def jX6_mayDo_20 (z : bw_A1) : Option Int32 :=
  some 0
def fX6_mayDo (z : bw_A1) (p1 : Int32) : Option Int32 :=
  bw_b1 (fX6_isOpen z p1) fun r2 =>
  if r2 = 0 then
    jX6_mayDo_20 z
  else
    bw_b1 (fX6_hasNext z p1) fun r10 =>
    if r10 = 0 then
      jX6_mayDo_20 z
    else
      some 1
def jX6_placeOf_42 (k2 : Int32 → Option Int32) (z : bw_A1) (x1 : Int32) (x2 : Int32) (x3 : Int32) : Option Int32 :=
  bw_let (x3 + 1 : Int32) fun x3_42 =>
  k2 x3_42
def bX6_placeOf_2 (k2 : Int32 → Option Int32) (z : bw_A1) (x1 : Int32) (x2 : Int32) (x3 : Int32) : Option Int32 :=
  bw_b1 (bw_rd 444 z 1) fun v8 =>
  if v8 ≤ x3 then
    some (-1)
  else
    bw_b1 (fX6_loanAt x3) fun r17 =>
    bw_b1 (bw_rd 444 z r17) fun v20 =>
    if v20 = x1 then
      bw_b1 (fX6_loanAt x3) fun r30 =>
      bw_b1 (bw_rd 444 z (r30 + 1)) fun v35 =>
      if v35 = x2 then
        some x3
      else
        jX6_placeOf_42 k2 z x1 x2 x3
    else
      jX6_placeOf_42 k2 z x1 x2 x3
def lX6_placeOf_2 (z : bw_A1) (x1 : Int32) (x2 : Int32) : Nat → Int32 → Option Int32
  | 0 => fun _ => none
  | n + 1 => bX6_placeOf_2  (lX6_placeOf_2 z x1 x2 n) z x1 x2
def fX6_placeOf (z : bw_A1) (p1 : Int32) (p2 : Int32) : Option Int32 :=
  lX6_placeOf_2 z p1 p2 bw_fu 0
def fX6_owedOf (z : bw_A1) (p1 : Int32) (p2 : Int32) : Option Int32 :=
  bw_b1 (fX6_placeOf z p2 p1) fun r3 =>
  if r3 = (-1) then
    some 0
  else
    bw_b1 (fX6_loanAt r3) fun r21 =>
    bw_b1 (bw_rd 444 z (r21 + 2)) fun v26 =>
    some v26
def bX6_dropLoan_15 (k15 : bw_A1 → Int32 → Option bw_A1) (z : bw_A1) (x2 : Int32) : Option bw_A1 :=
  bw_b1 (bw_rd 444 z 1) fun v21 =>
  bw_b1 (fX6_loanAt v21) fun r22 =>
  if r22 ≤ x2 then
    some z
  else
    bw_b1 (bw_rd 444 z (x2 + 3)) fun v40 =>
    bw_b1 (bw_wr 444 z x2 v40) fun z_41 =>
    bw_let (x2 + 1 : Int32) fun x2_42 =>
    k15 z_41 x2_42
def lX6_dropLoan_15  : Nat → bw_A1 → Int32 → Option bw_A1
  | 0 => fun _ _ => none
  | n + 1 => bX6_dropLoan_15  (lX6_dropLoan_15  n) 
def fX6_dropLoan (z : bw_A1) (p1 : Int32) : Option bw_A1 :=
  bw_b1 (bw_rd 444 z 1) fun v6 =>
  bw_b1 (bw_wr 444 z 1 (v6 - 1)) fun z_9 =>
  bw_b1 (fX6_loanAt p1) fun r11 =>
  lX6_dropLoan_15 bw_fu z_9 r11
def jX6_addLoan_69 (z : bw_A1) (x3 : Int32) (x4 : Int32) : Option bw_A1 :=
  bw_b1 (fX6_loanAt x4) fun r75 =>
  bw_b1 (bw_rd 444 z (r75 + 2)) fun v81 =>
  bw_b1 (bw_wr 444 z (r75 + 2) (v81 + x3)) fun z_84 =>
  some z_84
def fX6_addLoan (z : bw_A1) (p1 : Int32) (p2 : Int32) (p3 : Int32) : Option bw_A1 :=
  bw_b1 (fX6_placeOf z p1 p2) fun r3 =>
  if r3 = (-1) then
    bw_b1 (bw_rd 444 z 1) fun v19 =>
    bw_b1 (fX6_loanAt v19) fun r28 =>
    bw_b1 (bw_wr 444 z r28 p1) fun z_32 =>
    bw_b1 (fX6_loanAt v19) fun r39 =>
    bw_b1 (bw_wr 444 z_32 (r39 + 1) p2) fun z_45 =>
    bw_b1 (fX6_loanAt v19) fun r52 =>
    bw_b1 (bw_wr 444 z_45 (r52 + 2) 0) fun z_58 =>
    bw_b1 (bw_rd 444 z_58 1) fun v65 =>
    bw_b1 (bw_wr 444 z_58 1 (v65 + 1)) fun z_68 =>
    jX6_addLoan_69 z_68 p3 v19
  else
    jX6_addLoan_69 z p3 r3
def fX6_cutLoan (z : bw_A1) (p1 : Int32) (p2 : Int32) : Option bw_A1 :=
  bw_b1 (fX6_loanAt p1) fun r5 =>
  bw_b1 (bw_rd 444 z (r5 + 2)) fun v11 =>
  bw_b1 (bw_wr 444 z (r5 + 2) (v11 - p2)) fun z_14 =>
  bw_b1 (fX6_loanAt p1) fun r20 =>
  bw_b1 (bw_rd 444 z_14 (r20 + 2)) fun v25 =>
  if v25 = 0 then
    bw_b1 (fX6_dropLoan z_14 p1) fun z_31 =>
    some z_31
  else
    some z_14
def jX6_payAll_158 (k19 : bw_A1 → Int32 → Int32 → Option bw_A1) (z : bw_A1) (x1 : Int32) (x3 : Int32) (s0 : Int32) (s1 : Int32) : Option bw_A1 :=
  bw_let ((s1 + s0) : Int32) fun x4_159 =>
  k19 z x3 x4_159
def jX6_payAll_90 (k19 : bw_A1 → Int32 → Int32 → Option bw_A1) (z : bw_A1) (x1 : Int32) (x3 : Int32) (x4 : Int32) (x5 : Int32) (s0 : Int32) : Option bw_A1 :=
  bw_b1 (fX6_at x1) fun r97 =>
  bw_b1 (bw_rd 444 z (r97 + 2)) fun v103 =>
  bw_b1 (bw_wr 444 z (r97 + 2) (v103 - x5)) fun z_107 =>
  bw_b1 (fX6_loanAt x4) fun r118 =>
  bw_b1 (bw_rd 444 z_107 r118) fun v121 =>
  bw_b1 (fX6_at v121) fun r122 =>
  bw_b1 (bw_rd 444 z_107 (r122 + 2)) fun v128 =>
  bw_b1 (bw_wr 444 z_107 (r122 + 2) (v128 + x5)) fun z_132 =>
  bw_let ((x3 - x5) : Int32) fun x3_137 =>
  bw_b1 (fX6_cutLoan z_132 x4 x5) fun z_143 =>
  if s0 = 0 then
    jX6_payAll_158 k19 z_143 x1 x3_137 1 x4
  else
    jX6_payAll_158 k19 z_143 x1 x3_137 0 x4
def bX6_payAll_19 (k19 : bw_A1 → Int32 → Int32 → Option bw_A1) (x1 : Int32) (z : bw_A1) (x3 : Int32) (x4 : Int32) : Option bw_A1 :=
  bw_b1 (bw_rd 444 z 1) fun v26 =>
  if v26 ≤ x4 then
    some z
  else
    if x3 ≤ 0 then
      some z
    else
      bw_b1 (fX6_loanAt x4) fun r40 =>
      bw_b1 (bw_rd 444 z (r40 + 1)) fun v45 =>
      if v45 = x1 then
        bw_b1 (fX6_loanAt x4) fun r57 =>
        bw_b1 (bw_rd 444 z (r57 + 2)) fun v62 =>
        bw_b1 (fX6_least x3 v62) fun r63 =>
        bw_b1 (fX6_loanAt x4) fun r76 =>
        bw_b1 (bw_rd 444 z (r76 + 2)) fun v81 =>
        if r63 = v81 then
          jX6_payAll_90 k19 z x1 x3 x4 r63 1
        else
          jX6_payAll_90 k19 z x1 x3 x4 r63 0
      else
        bw_let (x4 + 1 : Int32) fun x4_164 =>
        k19 z x3 x4_164
def lX6_payAll_19 (x1 : Int32) : Nat → bw_A1 → Int32 → Int32 → Option bw_A1
  | 0 => fun _ _ _ => none
  | n + 1 => bX6_payAll_19  (lX6_payAll_19 x1 n) x1
def fX6_payAll (z : bw_A1) (p1 : Int32) (p2 : Int32) : Option bw_A1 :=
  bw_b1 (fX6_at p1) fun r6 =>
  bw_b1 (bw_rd 444 z (r6 + 2)) fun v11 =>
  bw_b1 (fX6_least p2 v11) fun r12 =>
  lX6_payAll_19 p1 bw_fu z r12 0
def jX6_lentBy_43 (k4 : Int32 → Int32 → Option Int32) (z : bw_A1) (x1 : Int32) (x3 : Int32) (s0 : Int32) (s1 : Int32) : Option Int32 :=
  bw_let ((s1 + s0) : Int32) fun x2_44 =>
  bw_let (x3 + 1 : Int32) fun x3_45 =>
  k4 x2_44 x3_45
def bX6_lentBy_4 (k4 : Int32 → Int32 → Option Int32) (z : bw_A1) (x1 : Int32) (x2 : Int32) (x3 : Int32) : Option Int32 :=
  bw_b1 (bw_rd 444 z 1) fun v10 =>
  if v10 ≤ x3 then
    some x2
  else
    bw_b1 (fX6_loanAt x3) fun r20 =>
    bw_b1 (bw_rd 444 z r20) fun v23 =>
    if v23 = x1 then
      bw_b1 (fX6_loanAt x3) fun r33 =>
      bw_b1 (bw_rd 444 z (r33 + 2)) fun v38 =>
      jX6_lentBy_43 k4 z x1 x3 v38 x2
    else
      jX6_lentBy_43 k4 z x1 x3 0 x2
def lX6_lentBy_4 (z : bw_A1) (x1 : Int32) : Nat → Int32 → Int32 → Option Int32
  | 0 => fun _ _ => none
  | n + 1 => bX6_lentBy_4  (lX6_lentBy_4 z x1 n) z x1
def fX6_lentBy (z : bw_A1) (p1 : Int32) : Option Int32 :=
  lX6_lentBy_4 z p1 bw_fu 0 0
def jX6_owedBy_45 (k4 : Int32 → Int32 → Option Int32) (z : bw_A1) (x1 : Int32) (x3 : Int32) (s0 : Int32) (s1 : Int32) : Option Int32 :=
  bw_let ((s1 + s0) : Int32) fun x2_46 =>
  bw_let (x3 + 1 : Int32) fun x3_47 =>
  k4 x2_46 x3_47
def bX6_owedBy_4 (k4 : Int32 → Int32 → Option Int32) (z : bw_A1) (x1 : Int32) (x2 : Int32) (x3 : Int32) : Option Int32 :=
  bw_b1 (bw_rd 444 z 1) fun v10 =>
  if v10 ≤ x3 then
    some x2
  else
    bw_b1 (fX6_loanAt x3) fun r20 =>
    bw_b1 (bw_rd 444 z (r20 + 1)) fun v25 =>
    if v25 = x1 then
      bw_b1 (fX6_loanAt x3) fun r35 =>
      bw_b1 (bw_rd 444 z (r35 + 2)) fun v40 =>
      jX6_owedBy_45 k4 z x1 x3 v40 x2
    else
      jX6_owedBy_45 k4 z x1 x3 0 x2
def lX6_owedBy_4 (z : bw_A1) (x1 : Int32) : Nat → Int32 → Int32 → Option Int32
  | 0 => fun _ _ => none
  | n + 1 => bX6_owedBy_4  (lX6_owedBy_4 z x1 n) z x1
def fX6_owedBy (z : bw_A1) (p1 : Int32) : Option Int32 :=
  lX6_owedBy_4 z p1 bw_fu 0 0
def jX6_canLend_49 (z : bw_A1) : Option Int32 :=
  some 0
def fX6_canLend (z : bw_A1) (p1 : Int32) : Option Int32 :=
  bw_b1 (fX6_at p1) fun r1 =>
  bw_b1 (bw_rd 444 z (r1 + 2)) fun v12 =>
  bw_b1 (bw_rd 444 z (r1 + 1)) fun v20 =>
  bw_b1 (bw_rd 444 z 4) fun v26 =>
  bw_let ((v12 - ((v20 * v26) / 100)) : Int32) fun x3_32 =>
  bw_b1 (fX6_isOpen z p1) fun r35 =>
  if r35 = 0 then
    jX6_canLend_49 z
  else
    if x3_32 ≤ 0 then
      jX6_canLend_49 z
    else
      some x3_32
def fX6_merit (z : bw_A1) (p1 : Int32) : Option Int32 :=
  bw_b1 (bw_rd 444 z 3) fun v5 =>
  if v5 = 0 then
    bw_b1 (fX6_at p1) fun r14 =>
    bw_b1 (bw_rd 444 z r14) fun v17 =>
    some v17
  else
    bw_b1 (bw_rd 444 z 3) fun v24 =>
    if v24 = 1 then
      bw_b1 (fX6_canLend z p1) fun r31 =>
      some r31
    else
      bw_b1 (fX6_lentBy z p1) fun r39 =>
      some (-r39)
def jX6_layOrder_146 (k15 : bw_A1 → Int32 → Int32 → Int32 → Option (bw_A1 × Int32)) (z : bw_A1) (od : bw_A1) (om : Int32) (x2 : Int32) (x3 : Int32) : Option (bw_A1 × Int32) :=
  k15 od om x2 x3
def jX6_layOrder_113 (k15 : bw_A1 → Int32 → Int32 → Int32 → Option (bw_A1 × Int32)) (z : bw_A1) (od : bw_A1) (om : Int32) (x2 : Int32) (x4 : Int32) (s0 : Int32) : Option (bw_A1 × Int32) :=
  if s0 = 0 then
    jX6_layOrder_146 k15 z od om x2 s0
  else
    bw_b1 (bw_wr 6 od om x4) fun od_128 =>
    bw_let ((om + 1) : Int32) fun om_136 =>
    bw_let ((x2 ||| (1 <<< (x4 &&& 31))) : Int32) fun x2_145 =>
    jX6_layOrder_146 k15 z od_128 om_136 x2_145 s0
def jX6_layOrder_94 (k15 : bw_A1 → Int32 → Int32 → Int32 → Option (bw_A1 × Int32)) (k25 : Int32 → Int32 → Option (bw_A1 × Int32)) (z : bw_A1) (od : bw_A1) (om : Int32) (x2 : Int32) (x5 : Int32) (s0 : Int32) : Option (bw_A1 × Int32) :=
  bw_let (x5 + 1 : Int32) fun x5_96 =>
  k25 s0 x5_96
def jX6_layOrder_92 (k15 : bw_A1 → Int32 → Int32 → Int32 → Option (bw_A1 × Int32)) (k25 : Int32 → Int32 → Option (bw_A1 × Int32)) (z : bw_A1) (od : bw_A1) (om : Int32) (x2 : Int32) (x4 : Int32) (x5 : Int32) : Option (bw_A1 × Int32) :=
  jX6_layOrder_94 k15 k25 z od om x2 x5 x4
def jX6_layOrder_87 (k15 : bw_A1 → Int32 → Int32 → Int32 → Option (bw_A1 × Int32)) (k25 : Int32 → Int32 → Option (bw_A1 × Int32)) (z : bw_A1) (od : bw_A1) (om : Int32) (x2 : Int32) (x5 : Int32) : Option (bw_A1 × Int32) :=
  jX6_layOrder_94 k15 k25 z od om x2 x5 x5
def jX6_layOrder_59 (k15 : bw_A1 → Int32 → Int32 → Int32 → Option (bw_A1 × Int32)) (k25 : Int32 → Int32 → Option (bw_A1 × Int32)) (z : bw_A1) (od : bw_A1) (om : Int32) (x2 : Int32) (x4 : Int32) (x5 : Int32) (s0 : Int32) : Option (bw_A1 × Int32) :=
  if s0 = 0 then
    jX6_layOrder_92 k15 k25 z od om x2 x4 x5
  else
    if x4 = (-1) then
      jX6_layOrder_87 k15 k25 z od om x2 x5
    else
      bw_b1 (fX6_merit z x5) fun r75 =>
      bw_b1 (fX6_merit z x4) fun r81 =>
      if r75 ≤ r81 then
        jX6_layOrder_92 k15 k25 z od om x2 x4 x5
      else
        jX6_layOrder_87 k15 k25 z od om x2 x5
def jX6_layOrder_58 (k15 : bw_A1 → Int32 → Int32 → Int32 → Option (bw_A1 × Int32)) (k25 : Int32 → Int32 → Option (bw_A1 × Int32)) (z : bw_A1) (od : bw_A1) (om : Int32) (x2 : Int32) (x4 : Int32) (x5 : Int32) : Option (bw_A1 × Int32) :=
  jX6_layOrder_59 k15 k25 z od om x2 x4 x5 0
def bX6_layOrder_25 (k15 : bw_A1 → Int32 → Int32 → Int32 → Option (bw_A1 × Int32)) (k25 : Int32 → Int32 → Option (bw_A1 × Int32)) (z : bw_A1) (od : bw_A1) (om : Int32) (x2 : Int32) (x4 : Int32) (x5 : Int32) : Option (bw_A1 × Int32) :=
  bw_b1 (bw_rd 444 z 0) fun v32 =>
  if v32 ≤ x5 then
    if x4 = (-1) then
      jX6_layOrder_113 k15 z od om x2 x4 0
    else
      jX6_layOrder_113 k15 z od om x2 x4 1
  else
    if ((x2 >>> (x5 &&& 31)) &&& 1) = 0 then
      bw_b1 (fX6_canLend z x5) fun r48 =>
      if r48 ≤ 0 then
        jX6_layOrder_58 k15 k25 z od om x2 x4 x5
      else
        jX6_layOrder_59 k15 k25 z od om x2 x4 x5 1
    else
      jX6_layOrder_58 k15 k25 z od om x2 x4 x5
def lX6_layOrder_25 (k15 : bw_A1 → Int32 → Int32 → Int32 → Option (bw_A1 × Int32)) (z : bw_A1) (od : bw_A1) (om : Int32) (x2 : Int32) : Nat → Int32 → Int32 → Option (bw_A1 × Int32)
  | 0 => fun _ _ => none
  | n + 1 => bX6_layOrder_25 k15 (lX6_layOrder_25 k15 z od om x2 n) z od om x2
def bX6_layOrder_15 (k15 : bw_A1 → Int32 → Int32 → Int32 → Option (bw_A1 × Int32)) (z : bw_A1) (od : bw_A1) (om : Int32) (x2 : Int32) (x3 : Int32) : Option (bw_A1 × Int32) :=
  if x3 = 0 then
    some (od, om)
  else
    lX6_layOrder_25 k15 z od om x2 bw_fu (-1) 0
def lX6_layOrder_15 (z : bw_A1) : Nat → bw_A1 → Int32 → Int32 → Int32 → Option (bw_A1 × Int32)
  | 0 => fun _ _ _ _ => none
  | n + 1 => bX6_layOrder_15  (lX6_layOrder_15 z n) z
def fX6_layOrder (z : bw_A1) (od : bw_A1) (om : Int32) (p1 : Int32) : Option (bw_A1 × Int32) :=
  bw_let ((1 <<< (p1 &&& 31)) : Int32) fun x2_3 =>
  bw_b1 (fX6_isOpen z p1) fun r11 =>
  lX6_layOrder_15 z bw_fu od 0 x2_3 r11
def jX6_callBack_153 (z : bw_A1) (ca : Int32) (x2 : Int32) (x3 : Int32) : Option (bw_A1 × Int32) :=
  bw_let ((x2 - x3) : Int32) fun ca_157 =>
  some (z, ca_157)
def jX6_callBack_147 (k5 : bw_A1 → Int32 → Int32 → Option (bw_A1 × Int32)) (z : bw_A1) (ca : Int32) (x1 : Int32) (x2 : Int32) (x3 : Int32) (s0 : Int32) (s1 : Int32) : Option (bw_A1 × Int32) :=
  bw_let ((s1 + s0) : Int32) fun x4_148 =>
  k5 z x3 x4_148
def jX6_callBack_135 (k5 : bw_A1 → Int32 → Int32 → Option (bw_A1 × Int32)) (z : bw_A1) (ca : Int32) (x1 : Int32) (x2 : Int32) (x3 : Int32) (x4 : Int32) (x5 : Int32) : Option (bw_A1 × Int32) :=
  if x5 = 0 then
    jX6_callBack_147 k5 z ca x1 x2 x3 1 x4
  else
    jX6_callBack_147 k5 z ca x1 x2 x3 0 x4
def jX6_callBack_106 (k5 : bw_A1 → Int32 → Int32 → Option (bw_A1 × Int32)) (z : bw_A1) (ca : Int32) (x1 : Int32) (x2 : Int32) (x3 : Int32) (x4 : Int32) (x6 : Int32) (x7 : Int32) (s0 : Int32) : Option (bw_A1 × Int32) :=
  bw_b1 (bw_rd 444 z (x6 + 2)) fun v117 =>
  bw_b1 (bw_wr 444 z (x6 + 2) (v117 - x7)) fun z_121 =>
  bw_let ((x3 - x7) : Int32) fun x3_126 =>
  bw_b1 (fX6_cutLoan z_121 x4 x7) fun z_132 =>
  jX6_callBack_135 k5 z_132 ca x1 x2 x3_126 x4 s0
def bX6_callBack_5 (k5 : bw_A1 → Int32 → Int32 → Option (bw_A1 × Int32)) (ca : Int32) (x1 : Int32) (x2 : Int32) (z : bw_A1) (x3 : Int32) (x4 : Int32) : Option (bw_A1 × Int32) :=
  bw_b1 (bw_rd 444 z 1) fun v12 =>
  if v12 ≤ x4 then
    jX6_callBack_153 z ca x2 x3
  else
    if x3 ≤ 0 then
      jX6_callBack_153 z ca x2 x3
    else
      bw_b1 (fX6_loanAt x4) fun r29 =>
      bw_b1 (bw_rd 444 z r29) fun v32 =>
      if v32 = x1 then
        bw_b1 (fX6_loanAt x4) fun r43 =>
        bw_b1 (bw_rd 444 z (r43 + 1)) fun v48 =>
        bw_b1 (fX6_at v48) fun r49 =>
        bw_b1 (fX6_loanAt x4) fun r61 =>
        bw_b1 (bw_rd 444 z (r61 + 2)) fun v66 =>
        bw_b1 (bw_rd 444 z (r49 + 2)) fun v75 =>
        bw_b1 (fX6_least v66 v75) fun r76 =>
        bw_b1 (fX6_least x3 r76) fun r79 =>
        bw_b1 (fX6_loanAt x4) fun r92 =>
        bw_b1 (bw_rd 444 z (r92 + 2)) fun v97 =>
        if r79 = v97 then
          jX6_callBack_106 k5 z ca x1 x2 x3 x4 r49 r79 1
        else
          jX6_callBack_106 k5 z ca x1 x2 x3 x4 r49 r79 0
      else
        jX6_callBack_135 k5 z ca x1 x2 x3 x4 0
def lX6_callBack_5 (ca : Int32) (x1 : Int32) (x2 : Int32) : Nat → bw_A1 → Int32 → Int32 → Option (bw_A1 × Int32)
  | 0 => fun _ _ _ => none
  | n + 1 => bX6_callBack_5  (lX6_callBack_5 ca x1 x2 n) ca x1 x2
def fX6_callBack (z : bw_A1) (ca : Int32) (p1 : Int32) (p2 : Int32) : Option (bw_A1 × Int32) :=
  lX6_callBack_5 ca p1 p2 bw_fu z p2 0
def jX6_borrow_87 (z : bw_A1) (od : bw_A1) (om : Int32) (bo : Int32) (la : Int32) (x2 : Int32) (x3 : Int32) : Option (bw_A1 × bw_A1 × Int32 × Int32 × Int32) :=
  bw_let ((x2 - x3) : Int32) fun bo_91 =>
  some (z, od, om, bo_91, x3)
def bX6_borrow_10 (k10 : bw_A1 → Int32 → Int32 → Option (bw_A1 × bw_A1 × Int32 × Int32 × Int32)) (od : bw_A1) (om : Int32) (bo : Int32) (la : Int32) (x1 : Int32) (x2 : Int32) (z : bw_A1) (x3 : Int32) (x4 : Int32) : Option (bw_A1 × bw_A1 × Int32 × Int32 × Int32) :=
  if om ≤ x4 then
    jX6_borrow_87 z od om bo la x2 x3
  else
    if x3 ≤ 0 then
      jX6_borrow_87 z od om bo la x2 x3
    else
      bw_b1 (bw_rd 6 od x4) fun v31 =>
      bw_b1 (fX6_canLend z v31) fun r32 =>
      bw_b1 (fX6_least x3 r32) fun r35 =>
      bw_b1 (bw_rd 6 od x4) fun v47 =>
      bw_b1 (fX6_addLoan z v47 x1 r35) fun z_51 =>
      bw_b1 (bw_rd 6 od x4) fun v64 =>
      bw_b1 (fX6_at v64) fun r65 =>
      bw_b1 (bw_rd 444 z_51 (r65 + 2)) fun v71 =>
      bw_b1 (bw_wr 444 z_51 (r65 + 2) (v71 - r35)) fun z_75 =>
      bw_let ((x3 - r35) : Int32) fun x3_80 =>
      bw_let (x4 + 1 : Int32) fun x4_81 =>
      k10 z_75 x3_80 x4_81
def lX6_borrow_10 (od : bw_A1) (om : Int32) (bo : Int32) (la : Int32) (x1 : Int32) (x2 : Int32) : Nat → bw_A1 → Int32 → Int32 → Option (bw_A1 × bw_A1 × Int32 × Int32 × Int32)
  | 0 => fun _ _ _ => none
  | n + 1 => bX6_borrow_10  (lX6_borrow_10 od om bo la x1 x2 n) od om bo la x1 x2
def fX6_borrow (z : bw_A1) (od : bw_A1) (om : Int32) (bo : Int32) (la : Int32) (p1 : Int32) (p2 : Int32) : Option (bw_A1 × bw_A1 × Int32 × Int32 × Int32) :=
  bw_b2 (fX6_layOrder z od om p1) fun od_4 om_4 =>
  lX6_borrow_10 od_4 om_4 bo la p1 p2 bw_fu z p2 0
def fX6_charge (z : bw_A1) (od : bw_A1) (om : Int32) (ow : Int32) (ca : Int32) (bo : Int32) (la : Int32) (p1 : Int32) (p2 : Int32) : Option (bw_A1 × bw_A1 × Int32 × Int32 × Int32 × Int32 × Int32) :=
  bw_b1 (fX6_at p1) fun r1 =>
  bw_b1 (bw_rd 444 z (r1 + 2)) fun v14 =>
  bw_b1 (fX6_least p2 v14) fun r15 =>
  bw_b1 (bw_rd 444 z (r1 + 2)) fun v29 =>
  bw_b1 (bw_wr 444 z (r1 + 2) (v29 - r15)) fun z_35 =>
  bw_b2 (fX6_callBack z_35 ca p1 (p2 - r15)) fun z_44 ca_44 =>
  bw_b5 (fX6_borrow z_44 od om bo la p1 ((p2 - r15) - ca_44)) fun z_60 od_60 om_60 bo_60 la_60 =>
  bw_b1 (bw_rd 444 z_60 (r1 + 3)) fun v71 =>
  bw_b1 (bw_wr 444 z_60 (r1 + 3) (v71 + ((r15 + ca_44) + bo_60))) fun z_87 =>
  bw_b1 (bw_rd 444 z_87 (r1 + 4)) fun v96 =>
  bw_b1 (bw_wr 444 z_87 (r1 + 4) (v96 + la_60)) fun z_102 =>
  some (z_102, od_60, om_60, r15, ca_44, bo_60, la_60)
def jX6_doNow_114 (z : bw_A1) (od : bw_A1) (om : Int32) (ow : Int32) (ca : Int32) (bo : Int32) (la : Int32) (x1 : Int32) (x3 : Int32) (x4 : Int32) : Option (bw_A1 × bw_A1 × Int32 × Int32 × Int32 × Int32 × Int32) :=
  bw_b1 (bw_wr 444 z ((x3 + 26) + (4 * x4)) ow) fun z_131 =>
  bw_b1 (bw_wr 444 z_131 (((x3 + 26) + (4 * x4)) + 1) ca) fun z_151 =>
  bw_b1 (bw_wr 444 z_151 (((x3 + 26) + (4 * x4)) + 2) bo) fun z_171 =>
  bw_b1 (bw_wr 444 z_171 (((x3 + 26) + (4 * x4)) + 3) la) fun z_191 =>
  bw_b1 (bw_rd 444 z_191 (x3 + 6)) fun v201 =>
  bw_b1 (bw_wr 444 z_191 (x3 + 6) (v201 + 1)) fun z_204 =>
  bw_b1 (fX6_hasNext z_204 x1) fun r207 =>
  if r207 = 0 then
    some (z_204, od, om, ow, ca, bo, la)
  else
    bw_b1 (bw_rd 444 z_204 (x3 + 2)) fun v222 =>
    bw_b1 (bw_rd 444 z_204 5) fun v228 =>
    bw_b1 (fX6_payAll z_204 x1 ((v222 * v228) / 100)) fun z_233 =>
    some (z_233, od, om, ow, ca, bo, la)
def fX6_doNow (z : bw_A1) (od : bw_A1) (om : Int32) (ow : Int32) (ca : Int32) (bo : Int32) (la : Int32) (p1 : Int32) (p2 : Int32) : Option (bw_A1 × bw_A1 × Int32 × Int32 × Int32 × Int32 × Int32) :=
  bw_b1 (fX6_at p1) fun r1 =>
  bw_b1 (bw_rd 444 z (r1 + 6)) fun v13 =>
  bw_b1 (bw_rd 444 z ((r1 + 10) + v13)) fun v28 =>
  bw_let ((p2 - v28) : Int32) fun x5_30 =>
  bw_b1 (bw_wr 444 z ((r1 + 18) + v13) p2) fun z_64 =>
  if x5_30 ≤ 0 then
    bw_b1 (bw_rd 444 z_64 (r1 + 2)) fun v88 =>
    bw_b1 (bw_wr 444 z_64 (r1 + 2) (v88 - x5_30)) fun z_92 =>
    bw_b1 (bw_rd 444 z_92 (r1 + 3)) fun v101 =>
    bw_b1 (bw_wr 444 z_92 (r1 + 3) (v101 + x5_30)) fun z_105 =>
    bw_b1 (fX6_payAll z_105 p1 (-x5_30)) fun z_111 =>
    jX6_doNow_114 z_111 od om 0 0 0 0 p1 r1 v13
  else
    bw_b7 (fX6_charge z_64 od om 0 0 0 0 p1 x5_30) fun z_74 od_74 om_74 ow_74 ca_74 bo_74 la_74 =>
    jX6_doNow_114 z_74 od_74 om_74 ow_74 ca_74 bo_74 la_74 p1 r1 v13
def bX6_openNow_13 (k13 : bw_A1 → Int32 → Option bw_A1) (x1 : Int32) (x2 : Int32) (x3 : Int32) (z : bw_A1) (x4 : Int32) : Option bw_A1 :=
  if 58 ≤ x4 then
    bw_b1 (bw_wr 444 z x3 x1) fun z_42 =>
    bw_b1 (bw_wr 444 z_42 (x3 + 1) x2) fun z_51 =>
    bw_b1 (bw_wr 444 z_51 (x3 + 2) x2) fun z_60 =>
    bw_b1 (bw_wr 444 z_60 (x3 + 7) 1) fun z_70 =>
    bw_b1 (bw_rd 444 z_70 0) fun v77 =>
    bw_b1 (bw_wr 444 z_70 0 (v77 + 1)) fun z_80 =>
    some z_80
  else
    bw_b1 (bw_wr 444 z (x3 + x4) 0) fun z_29 =>
    bw_let (x4 + 1 : Int32) fun x4_30 =>
    k13 z_29 x4_30
def lX6_openNow_13 (x1 : Int32) (x2 : Int32) (x3 : Int32) : Nat → bw_A1 → Int32 → Option bw_A1
  | 0 => fun _ _ => none
  | n + 1 => bX6_openNow_13  (lX6_openNow_13 x1 x2 x3 n) x1 x2 x3
def fX6_openNow (z : bw_A1) (p1 : Int32) (p2 : Int32) : Option bw_A1 :=
  bw_b1 (bw_rd 444 z 0) fun v5 =>
  bw_b1 (fX6_at v5) fun r6 =>
  lX6_openNow_13 p1 p2 r6 bw_fu z 0
def fX6_isRank (p0 : Int32) : Option Int32 :=
  bw_b1 (fX6_in p0 1 9) fun r4 =>
  bw_bool r4 (some r4)
def jX6_open_22 (z : bw_A1) (rows : bw_A1) (sm : Int32) (th : Int32) : Option (Int32 × bw_A1 × bw_A1 × Int32 × Int32) :=
  bw_b2 (fX6_fails th 1) fun r24 th_24 =>
  some (r24, z, rows, sm, th_24)
def fX6_open (z : bw_A1) (rows : bw_A1) (sm : Int32) (th : Int32) (p1 : Int32) (p2 : Int32) : Option (Int32 × bw_A1 × bw_A1 × Int32 × Int32) :=
  bw_b1 (fX6_isRank p1) fun r6 =>
  if r6 = 0 then
    jX6_open_22 z rows sm 0
  else
    bw_b1 (fX6_in p2 0 99) fun r16 =>
    if r16 = 0 then
      jX6_open_22 z rows sm 0
    else
      bw_b1 (bw_rd 444 z 0) fun v33 =>
      if v33 = 6 then
        bw_b2 (fX6_fails 0 2) fun r41 th_41 =>
        some (r41, z, rows, sm, th_41)
      else
        bw_b2 (fX6_save z rows sm) fun rows_46 sm_46 =>
        bw_b1 (fX6_openNow z p1 p2) fun z_52 =>
        bw_b1 (bw_rd 444 z_52 0) fun v60 =>
        some ((v60 - 1), z_52, rows_46, sm_46, 0)
def fX6_planNow (z : bw_A1) (p1 : Int32) (p2 : Int32) : Option bw_A1 :=
  bw_b1 (fX6_at p1) fun r1 =>
  bw_b1 (bw_rd 444 z (r1 + 5)) fun v20 =>
  bw_b1 (bw_wr 444 z ((r1 + 10) + v20) p2) fun z_23 =>
  bw_b1 (bw_rd 444 z_23 (r1 + 5)) fun v39 =>
  bw_b1 (bw_wr 444 z_23 ((r1 + 18) + v39) (-1)) fun z_42 =>
  bw_b1 (bw_rd 444 z_42 (r1 + 5)) fun v51 =>
  bw_b1 (bw_wr 444 z_42 (r1 + 5) (v51 + 1)) fun z_54 =>
  some z_54
def jX6_plan_59 (z : bw_A1) (rows : bw_A1) (sm : Int32) (th : Int32) : Option (Int32 × bw_A1 × bw_A1 × Int32 × Int32) :=
  bw_b2 (fX6_fails th 3) fun r61 th_61 =>
  some (r61, z, rows, sm, th_61)
def fX6_plan (z : bw_A1) (rows : bw_A1) (sm : Int32) (th : Int32) (p1 : Int32) (p2 : Int32) : Option (Int32 × bw_A1 × bw_A1 × Int32 × Int32) :=
  bw_b1 (fX6_isProject z p1) fun r7 =>
  if r7 = 0 then
    bw_b2 (fX6_fails 0 1) fun r15 th_15 =>
    some (r15, z, rows, sm, th_15)
  else
    bw_b1 (fX6_in p2 1 60) fun r23 =>
    if r23 = 0 then
      bw_b2 (fX6_fails 0 2) fun r31 th_31 =>
      some (r31, z, rows, sm, th_31)
    else
      bw_b1 (fX6_isOpen z p1) fun r37 =>
      if r37 = 0 then
        jX6_plan_59 z rows sm 0
      else
        bw_b1 (fX6_at p1) fun r48 =>
        bw_b1 (bw_rd 444 z (r48 + 5)) fun v53 =>
        if v53 = 8 then
          jX6_plan_59 z rows sm 0
        else
          bw_b2 (fX6_save z rows sm) fun rows_66 sm_66 =>
          bw_b1 (fX6_planNow z p1 p2) fun z_72 =>
          bw_b1 (fX6_at p1) fun r80 =>
          bw_b1 (bw_rd 444 z_72 (r80 + 5)) fun v85 =>
          some ((v85 - 1), z_72, rows_66, sm_66, 0)
def fX6_rank (z : bw_A1) (rows : bw_A1) (sm : Int32) (th : Int32) (p1 : Int32) (p2 : Int32) : Option (Int32 × bw_A1 × bw_A1 × Int32 × Int32) :=
  bw_b1 (fX6_isProject z p1) fun r7 =>
  if r7 = 0 then
    bw_b2 (fX6_fails 0 1) fun r15 th_15 =>
    some (r15, z, rows, sm, th_15)
  else
    bw_b1 (fX6_isRank p2) fun r20 =>
    if r20 = 0 then
      bw_b2 (fX6_fails 0 2) fun r28 th_28 =>
      some (r28, z, rows, sm, th_28)
    else
      bw_b2 (fX6_save z rows sm) fun rows_33 sm_33 =>
      bw_b1 (fX6_at p1) fun r41 =>
      bw_b1 (bw_rd 444 z r41) fun v44 =>
      bw_b1 (fX6_at p1) fun r51 =>
      bw_b1 (bw_wr 444 z r51 p2) fun z_55 =>
      some (v44, z_55, rows_33, sm_33, 0)
def jX6_set_32 (z : bw_A1) (rows : bw_A1) (sm : Int32) (th : Int32) (x1 : Int32) (x2 : Int32) (s0 : Int32) (s1 : Int32) (s2 : Int32) : Option (Int32 × bw_A1 × bw_A1 × Int32 × Int32) :=
  bw_b1 (fX6_in s2 s1 s0) fun r32 =>
  if r32 = 0 then
    bw_b2 (fX6_fails th 2) fun r40 th_40 =>
    some (r40, z, rows, sm, th_40)
  else
    bw_b2 (fX6_save z rows sm) fun rows_45 sm_45 =>
    bw_b1 (bw_rd 444 z (3 + x1)) fun v55 =>
    bw_b1 (bw_wr 444 z (3 + x1) x2) fun z_65 =>
    some (v55, z_65, rows_45, sm_45, th)
def fX6_set (z : bw_A1) (rows : bw_A1) (sm : Int32) (th : Int32) (p1 : Int32) (p2 : Int32) : Option (Int32 × bw_A1 × bw_A1 × Int32 × Int32) :=
  bw_b1 (fX6_in p1 0 2) fun r8 =>
  if r8 = 0 then
    bw_b2 (fX6_fails 0 1) fun r16 th_16 =>
    some (r16, z, rows, sm, th_16)
  else
    if p1 = 0 then
      jX6_set_32 z rows sm 0 p1 p2 2 0 p2
    else
      jX6_set_32 z rows sm 0 p1 p2 100 0 p2
def fX6_done (z : bw_A1) (rows : bw_A1) (sm : Int32) (th : Int32) (od : bw_A1) (om : Int32) (ow : Int32) (ca : Int32) (bo : Int32) (la : Int32) (p1 : Int32) (p2 : Int32) : Option (Int32 × bw_A1 × bw_A1 × Int32 × Int32 × bw_A1 × Int32 × Int32 × Int32 × Int32 × Int32) :=
  bw_b1 (fX6_isProject z p1) fun r7 =>
  if r7 = 0 then
    bw_b2 (fX6_fails 0 1) fun r15 th_15 =>
    some (r15, z, rows, sm, th_15, od, om, ow, ca, bo, la)
  else
    bw_b1 (fX6_in p2 0 300) fun r24 =>
    if r24 = 0 then
      bw_b2 (fX6_fails 0 2) fun r32 th_32 =>
      some (r32, z, rows, sm, th_32, od, om, ow, ca, bo, la)
    else
      bw_b1 (fX6_mayDo z p1) fun r38 =>
      if r38 = 0 then
        bw_b2 (fX6_fails 0 3) fun r46 th_46 =>
        some (r46, z, rows, sm, th_46, od, om, ow, ca, bo, la)
      else
        bw_b2 (fX6_save z rows sm) fun rows_51 sm_51 =>
        bw_b7 (fX6_doNow z od om ow ca bo la p1 p2) fun z_57 od_57 om_57 ow_57 ca_57 bo_57 la_57 =>
        some (la_57, z_57, rows_51, sm_51, 0, od_57, om_57, ow_57, ca_57, bo_57, la_57)
def jX6_lend_21 (z : bw_A1) (rows : bw_A1) (sm : Int32) (th : Int32) : Option (Int32 × bw_A1 × bw_A1 × Int32 × Int32) :=
  bw_b2 (fX6_fails th 1) fun r23 th_23 =>
  some (r23, z, rows, sm, th_23)
def jX6_lend_42 (z : bw_A1) (rows : bw_A1) (sm : Int32) (th : Int32) : Option (Int32 × bw_A1 × bw_A1 × Int32 × Int32) :=
  bw_b2 (fX6_fails th 2) fun r44 th_44 =>
  some (r44, z, rows, sm, th_44)
def jX6_lend_79 (z : bw_A1) (rows : bw_A1) (sm : Int32) (th : Int32) : Option (Int32 × bw_A1 × bw_A1 × Int32 × Int32) :=
  bw_b2 (fX6_fails th 3) fun r81 th_81 =>
  some (r81, z, rows, sm, th_81)
def fX6_lend (z : bw_A1) (rows : bw_A1) (sm : Int32) (th : Int32) (p1 : Int32) (p2 : Int32) (p3 : Int32) : Option (Int32 × bw_A1 × bw_A1 × Int32 × Int32) :=
  bw_b1 (fX6_isProject z p1) fun r7 =>
  if r7 = 0 then
    jX6_lend_21 z rows sm 0
  else
    bw_b1 (fX6_isProject z p2) fun r15 =>
    if r15 = 0 then
      jX6_lend_21 z rows sm 0
    else
      if p1 = p2 then
        jX6_lend_42 z rows sm 0
      else
        bw_b1 (fX6_in p3 1 99) fun r36 =>
        if r36 = 0 then
          jX6_lend_42 z rows sm 0
        else
          bw_b1 (fX6_isOpen z p1) fun r50 =>
          if r50 = 0 then
            jX6_lend_79 z rows sm 0
          else
            bw_b1 (fX6_isOpen z p2) fun r58 =>
            if r58 = 0 then
              jX6_lend_79 z rows sm 0
            else
              bw_b1 (fX6_at p1) fun r69 =>
              bw_b1 (bw_rd 444 z (r69 + 2)) fun v74 =>
              if p3 ≤ v74 then
                bw_b2 (fX6_save z rows sm) fun rows_86 sm_86 =>
                bw_b1 (fX6_addLoan z p1 p2 p3) fun z_93 =>
                bw_b1 (fX6_at p1) fun r101 =>
                bw_b1 (bw_rd 444 z_93 (r101 + 2)) fun v107 =>
                bw_b1 (bw_wr 444 z_93 (r101 + 2) (v107 - p3)) fun z_110 =>
                bw_b1 (fX6_at p2) fun r116 =>
                bw_b1 (bw_rd 444 z_110 (r116 + 2)) fun v122 =>
                bw_b1 (bw_wr 444 z_110 (r116 + 2) (v122 + p3)) fun z_125 =>
                bw_b1 (fX6_owedOf z_125 p2 p1) fun r129 =>
                some (r129, z_125, rows_86, sm_86, 0)
              else
                jX6_lend_79 z rows sm 0
def jX6_payBack_21 (z : bw_A1) (rows : bw_A1) (sm : Int32) (th : Int32) : Option (Int32 × bw_A1 × bw_A1 × Int32 × Int32) :=
  bw_b2 (fX6_fails th 1) fun r23 th_23 =>
  some (r23, z, rows, sm, th_23)
def jX6_payBack_43 (z : bw_A1) (rows : bw_A1) (sm : Int32) (th : Int32) : Option (Int32 × bw_A1 × bw_A1 × Int32 × Int32) :=
  bw_b2 (fX6_fails th 2) fun r45 th_45 =>
  some (r45, z, rows, sm, th_45)
def jX6_payBack_74 (z : bw_A1) (rows : bw_A1) (sm : Int32) (th : Int32) : Option (Int32 × bw_A1 × bw_A1 × Int32 × Int32) :=
  bw_b2 (fX6_fails th 3) fun r76 th_76 =>
  some (r76, z, rows, sm, th_76)
def fX6_payBack (z : bw_A1) (rows : bw_A1) (sm : Int32) (th : Int32) (p1 : Int32) (p2 : Int32) (p3 : Int32) : Option (Int32 × bw_A1 × bw_A1 × Int32 × Int32) :=
  bw_b1 (fX6_isProject z p1) fun r7 =>
  if r7 = 0 then
    jX6_payBack_21 z rows sm 0
  else
    bw_b1 (fX6_isProject z p2) fun r15 =>
    if r15 = 0 then
      jX6_payBack_21 z rows sm 0
    else
      if p2 = p1 then
        jX6_payBack_43 z rows sm 0
      else
        bw_b1 (fX6_in p3 1 9999) fun r37 =>
        if r37 = 0 then
          jX6_payBack_43 z rows sm 0
        else
          bw_b1 (fX6_owedOf z p1 p2) fun r52 =>
          if r52 < p3 then
            jX6_payBack_74 z rows sm 0
          else
            bw_b1 (fX6_at p1) fun r64 =>
            bw_b1 (bw_rd 444 z (r64 + 2)) fun v69 =>
            if p3 ≤ v69 then
              bw_b2 (fX6_save z rows sm) fun rows_81 sm_81 =>
              bw_b1 (fX6_at p1) fun r89 =>
              bw_b1 (bw_rd 444 z (r89 + 2)) fun v95 =>
              bw_b1 (bw_wr 444 z (r89 + 2) (v95 - p3)) fun z_98 =>
              bw_b1 (fX6_at p2) fun r104 =>
              bw_b1 (bw_rd 444 z_98 (r104 + 2)) fun v110 =>
              bw_b1 (bw_wr 444 z_98 (r104 + 2) (v110 + p3)) fun z_113 =>
              bw_b1 (fX6_placeOf z_113 p2 p1) fun r118 =>
              bw_b1 (fX6_cutLoan z_113 r118 p3) fun z_122 =>
              bw_b1 (fX6_owedOf z_122 p1 p2) fun r128 =>
              some (r128, z_122, rows_81, sm_81, 0)
            else
              jX6_payBack_74 z rows sm 0
def jX6_writeOff_115 (k4 : bw_A1 → Int32 → Int32 → Option (Int32 × bw_A1)) (z : bw_A1) (x1 : Int32) (x2 : Int32) (x3 : Int32) : Option (Int32 × bw_A1) :=
  k4 z x2 x3
def jX6_writeOff_63 (k4 : bw_A1 → Int32 → Int32 → Option (Int32 × bw_A1)) (z : bw_A1) (x1 : Int32) (x2 : Int32) (x3 : Int32) (x4 : Int32) (x5 : Int32) (x6 : Int32) : Option (Int32 × bw_A1) :=
  bw_b1 (fX6_at x4) fun r69 =>
  bw_b1 (bw_rd 444 z (r69 + 9)) fun v76 =>
  bw_b1 (bw_wr 444 z (r69 + 9) (v76 + x6)) fun z_80 =>
  bw_b1 (fX6_at x5) fun r87 =>
  bw_b1 (bw_rd 444 z_80 (r87 + 8)) fun v94 =>
  bw_b1 (bw_wr 444 z_80 (r87 + 8) (v94 + x6)) fun z_98 =>
  bw_let ((x2 + x6) : Int32) fun x2_103 =>
  bw_b1 (fX6_dropLoan z_98 x3) fun z_106 =>
  jX6_writeOff_115 k4 z_106 x1 x2_103 x3
def bX6_writeOff_4 (k4 : bw_A1 → Int32 → Int32 → Option (Int32 × bw_A1)) (x1 : Int32) (z : bw_A1) (x2 : Int32) (x3 : Int32) : Option (Int32 × bw_A1) :=
  bw_b1 (bw_rd 444 z 1) fun v10 =>
  if v10 ≤ x3 then
    some (x2, z)
  else
    bw_b1 (fX6_loanAt x3) fun r19 =>
    bw_b1 (bw_rd 444 z r19) fun v22 =>
    bw_b1 (fX6_loanAt x3) fun r30 =>
    bw_b1 (bw_rd 444 z (r30 + 1)) fun v35 =>
    bw_b1 (fX6_loanAt x3) fun r43 =>
    bw_b1 (bw_rd 444 z (r43 + 2)) fun v48 =>
    if v22 = x1 then
      jX6_writeOff_63 k4 z x1 x2 x3 v22 v35 v48
    else
      if v35 = x1 then
        jX6_writeOff_63 k4 z x1 x2 x3 v22 v35 v48
      else
        bw_let (x3 + 1 : Int32) fun x3_112 =>
        jX6_writeOff_115 k4 z x1 x2 x3_112
def lX6_writeOff_4 (x1 : Int32) : Nat → bw_A1 → Int32 → Int32 → Option (Int32 × bw_A1)
  | 0 => fun _ _ _ => none
  | n + 1 => bX6_writeOff_4  (lX6_writeOff_4 x1 n) x1
def fX6_writeOff (z : bw_A1) (p1 : Int32) : Option (Int32 × bw_A1) :=
  lX6_writeOff_4 p1 bw_fu z 0 0
def jX6_close_35 (z : bw_A1) (rows : bw_A1) (sm : Int32) (th : Int32) : Option (Int32 × bw_A1 × bw_A1 × Int32 × Int32) :=
  bw_b2 (fX6_fails th 2) fun r37 th_37 =>
  some (r37, z, rows, sm, th_37)
def fX6_close (z : bw_A1) (rows : bw_A1) (sm : Int32) (th : Int32) (p1 : Int32) : Option (Int32 × bw_A1 × bw_A1 × Int32 × Int32) :=
  bw_b1 (fX6_isProject z p1) fun r7 =>
  if r7 = 0 then
    bw_b2 (fX6_fails 0 1) fun r15 th_15 =>
    some (r15, z, rows, sm, th_15)
  else
    bw_b1 (fX6_isOpen z p1) fun r21 =>
    if r21 = 0 then
      jX6_close_35 z rows sm 0
    else
      bw_b1 (fX6_hasNext z p1) fun r29 =>
      if r29 = 0 then
        bw_b2 (fX6_save z rows sm) fun rows_42 sm_42 =>
        bw_b1 (fX6_at p1) fun r52 =>
        bw_b1 (bw_rd 444 z (r52 + 2)) fun v57 =>
        bw_b1 (fX6_payAll z p1 v57) fun z_58 =>
        bw_b2 (fX6_writeOff z_58 p1) fun r63 z_63 =>
        bw_b1 (fX6_at p1) fun r72 =>
        bw_b1 (bw_wr 444 z_63 (r72 + 7) 0) fun z_79 =>
        bw_b1 (bw_rd 444 z_79 2) fun v86 =>
        bw_b1 (bw_wr 444 z_79 2 (v86 + r63)) fun z_89 =>
        some (r63, z_89, rows_42, sm_42, 0)
      else
        jX6_close_35 z rows sm 0
def fX6_append (buf : bw_A1) (bm : Int32) (th : Int32) (p1 : Int32) : Option (Int32 × bw_A1 × Int32 × Int32) :=
  bw_b1 (fX6_in p1 33 126) fun r10 =>
  if r10 = 0 then
    bw_b2 (fX6_fails 0 1) fun r18 th_18 =>
    some (r18, buf, bm, th_18)
  else
    if bm = 60 then
      bw_b2 (fX6_fails 0 2) fun r33 th_33 =>
      some (r33, buf, bm, th_33)
    else
      bw_b1 (bw_wr 60 buf bm p1) fun buf_46 =>
      bw_let ((bm + 1) : Int32) fun bm_54 =>
      some (bm_54, buf_46, bm_54, 0)
def fX6_clearBuffer (bm : Int32) (th : Int32) : Option (Int32 × Int32 × Int32) :=
  some (bm, 0, 0)
def fX6_next (buf : bw_A1) (bm : Int32) (pl : Int32) : Option Int32 :=
  if bm ≤ pl then
    some 0
  else
    bw_b1 (bw_rd 60 buf pl) fun v19 =>
    some v19
def jX6_takes_28 (buf : bw_A1) (bm : Int32) (pl : Int32) (x2 : Int32) (s0 : Int32) (s1 : Int32) : Option (Int32 × Int32) :=
  bw_let ((s1 + s0) : Int32) fun pl_29 =>
  bw_bool x2 (some (x2, pl_29))
def jX6_takes_13 (buf : bw_A1) (bm : Int32) (pl : Int32) (s0 : Int32) : Option (Int32 × Int32) :=
  if s0 = 0 then
    jX6_takes_28 buf bm pl s0 0 pl
  else
    jX6_takes_28 buf bm pl s0 1 pl
def fX6_takes (buf : bw_A1) (bm : Int32) (pl : Int32) (p1 : Int32) : Option (Int32 × Int32) :=
  bw_b1 (fX6_next buf bm pl) fun r1 =>
  if r1 = p1 then
    jX6_takes_13 buf bm pl 1
  else
    jX6_takes_13 buf bm pl 0
def jX6_number_97 (k5 : Int32 → Int32 → Int32 → Option (Int32 × Int32)) (buf : bw_A1) (bm : Int32) (pl : Int32) (x1 : Int32) (x2 : Int32) (x3 : Int32) (x4 : Int32) (s0 : Int32) (s1 : Int32) : Option (Int32 × Int32) :=
  bw_let ((s1 + s0) : Int32) fun pl_98 =>
  k5 pl_98 x3 x4
def jX6_number_81 (k5 : Int32 → Int32 → Int32 → Option (Int32 × Int32)) (buf : bw_A1) (bm : Int32) (pl : Int32) (x1 : Int32) (x2 : Int32) (x4 : Int32) (s0 : Int32) : Option (Int32 × Int32) :=
  if x4 = 0 then
    jX6_number_97 k5 buf bm pl x1 x2 s0 x4 0 pl
  else
    jX6_number_97 k5 buf bm pl x1 x2 s0 x4 1 pl
def jX6_number_68 (k5 : Int32 → Int32 → Int32 → Option (Int32 × Int32)) (buf : bw_A1) (bm : Int32) (pl : Int32) (x1 : Int32) (x2 : Int32) (x3 : Int32) (x6 : Int32) (s0 : Int32) : Option (Int32 × Int32) :=
  if s0 = 0 then
    jX6_number_81 k5 buf bm pl x1 x2 s0 x3
  else
    jX6_number_81 k5 buf bm pl x1 x2 s0 x6
def jX6_number_67 (k5 : Int32 → Int32 → Int32 → Option (Int32 × Int32)) (buf : bw_A1) (bm : Int32) (pl : Int32) (x1 : Int32) (x2 : Int32) (x3 : Int32) (x6 : Int32) : Option (Int32 × Int32) :=
  jX6_number_68 k5 buf bm pl x1 x2 x3 x6 0
def jX6_number_36 (k5 : Int32 → Int32 → Int32 → Option (Int32 × Int32)) (buf : bw_A1) (bm : Int32) (pl : Int32) (x1 : Int32) (x2 : Int32) (x3 : Int32) (x5 : Int32) (s0 : Int32) : Option (Int32 × Int32) :=
  bw_b1 (fX6_in x5 0 9) fun r43 =>
  if r43 = 0 then
    jX6_number_67 k5 buf bm pl x1 x2 x3 s0
  else
    if x3 = 0 then
      jX6_number_67 k5 buf bm pl x1 x2 x3 s0
    else
      bw_b1 (fX6_in s0 x1 x2) fun r57 =>
      if r57 = 0 then
        jX6_number_67 k5 buf bm pl x1 x2 x3 s0
      else
        jX6_number_68 k5 buf bm pl x1 x2 x3 s0 1
def bX6_number_5 (k5 : Int32 → Int32 → Int32 → Option (Int32 × Int32)) (buf : bw_A1) (bm : Int32) (x1 : Int32) (x2 : Int32) (pl : Int32) (x3 : Int32) (x4 : Int32) : Option (Int32 × Int32) :=
  if x4 = 0 then
    some (x3, pl)
  else
    bw_b1 (fX6_next buf bm pl) fun r11 =>
    bw_let ((r11 - 48) : Int32) fun x5_17 =>
    if x3 = (-1) then
      jX6_number_36 k5 buf bm pl x1 x2 x3 x5_17 x5_17
    else
      jX6_number_36 k5 buf bm pl x1 x2 x3 x5_17 ((10 * x3) + x5_17)
def lX6_number_5 (buf : bw_A1) (bm : Int32) (x1 : Int32) (x2 : Int32) : Nat → Int32 → Int32 → Int32 → Option (Int32 × Int32)
  | 0 => fun _ _ _ => none
  | n + 1 => bX6_number_5  (lX6_number_5 buf bm x1 x2 n) buf bm x1 x2
def fX6_number (buf : bw_A1) (bm : Int32) (pl : Int32) (p1 : Int32) (p2 : Int32) : Option (Int32 × Int32) :=
  lX6_number_5 buf bm p1 p2 bw_fu pl (-1) 1
def jX6_tasks_104 (k13 : Int32 → bw_A1 → Int32 → Int32 → Option (Int32 × Int32 × bw_A1)) (buf : bw_A1) (bm : Int32) (pl : Int32) (rd : bw_A1) (x1 : Int32) (x3 : Int32) (s0 : Int32) : Option (Int32 × Int32 × bw_A1) :=
  k13 pl rd s0 x3
def jX6_tasks_103 (k13 : Int32 → bw_A1 → Int32 → Int32 → Option (Int32 × Int32 × bw_A1)) (buf : bw_A1) (bm : Int32) (pl : Int32) (rd : bw_A1) (x1 : Int32) (x3 : Int32) : Option (Int32 × Int32 × bw_A1) :=
  jX6_tasks_104 k13 buf bm pl rd x1 x3 0
def jX6_tasks_73 (k13 : Int32 → bw_A1 → Int32 → Int32 → Option (Int32 × Int32 × bw_A1)) (buf : bw_A1) (bm : Int32) (pl : Int32) (rd : bw_A1) (x1 : Int32) (x3 : Int32) : Option (Int32 × Int32 × bw_A1) :=
  if x3 = 0 then
    jX6_tasks_103 k13 buf bm pl rd x1 x3
  else
    bw_b1 (bw_rd 110 rd (x1 + 2)) fun v84 =>
    if 8 ≤ v84 then
      jX6_tasks_103 k13 buf bm pl rd x1 x3
    else
      bw_b2 (fX6_takes buf bm pl 43) fun r93 pl_93 =>
      if r93 = 0 then
        jX6_tasks_103 k13 buf bm pl_93 rd x1 x3
      else
        jX6_tasks_104 k13 buf bm pl_93 rd x1 x3 1
def jX6_tasks_37 (k13 : Int32 → bw_A1 → Int32 → Int32 → Option (Int32 × Int32 × bw_A1)) (buf : bw_A1) (bm : Int32) (pl : Int32) (rd : bw_A1) (x1 : Int32) (x4 : Int32) (s0 : Int32) : Option (Int32 × Int32 × bw_A1) :=
  if s0 = 0 then
    jX6_tasks_73 k13 buf bm pl rd x1 s0
  else
    bw_b1 (bw_rd 110 rd (x1 + 2)) fun v56 =>
    bw_b1 (bw_wr 110 rd ((x1 + 3) + v56) x4) fun rd_60 =>
    bw_b1 (bw_rd 110 rd_60 (x1 + 2)) fun v69 =>
    bw_b1 (bw_wr 110 rd_60 (x1 + 2) (v69 + 1)) fun rd_72 =>
    jX6_tasks_73 k13 buf bm pl rd_72 x1 s0
def bX6_tasks_13 (k13 : Int32 → bw_A1 → Int32 → Int32 → Option (Int32 × Int32 × bw_A1)) (buf : bw_A1) (bm : Int32) (x1 : Int32) (pl : Int32) (rd : bw_A1) (x2 : Int32) (x3 : Int32) : Option (Int32 × Int32 × bw_A1) :=
  if x2 = 0 then
    bw_bool x3 (some (x3, pl, rd))
  else
    bw_b2 (fX6_number buf bm pl 1 60) fun r21 pl_21 =>
    if r21 = (-1) then
      jX6_tasks_37 k13 buf bm pl_21 rd x1 r21 0
    else
      jX6_tasks_37 k13 buf bm pl_21 rd x1 r21 1
def lX6_tasks_13 (buf : bw_A1) (bm : Int32) (x1 : Int32) : Nat → Int32 → bw_A1 → Int32 → Int32 → Option (Int32 × Int32 × bw_A1)
  | 0 => fun _ _ _ _ => none
  | n + 1 => bX6_tasks_13  (lX6_tasks_13 buf bm x1 n) buf bm x1
def fX6_tasks (buf : bw_A1) (bm : Int32) (pl : Int32) (rd : bw_A1) (p1 : Int32) : Option (Int32 × Int32 × bw_A1) :=
  bw_b1 (bw_wr 110 rd (p1 + 2) 0) fun rd_8 =>
  lX6_tasks_13 buf bm p1 bw_fu pl rd_8 1 1
def jX6_readProject_20 (buf : bw_A1) (bm : Int32) (pl : Int32) (to : Int32) (rd : bw_A1) (s0 : Int32) (s1 : Int32) : Option (Int32 × Int32 × Int32 × bw_A1) :=
  bw_let ((s1 * s0) : Int32) fun x1_21 =>
  bw_b2 (fX6_number buf bm pl 1 9) fun r31 pl_31 =>
  bw_b1 (bw_wr 110 rd x1_21 r31) fun rd_34 =>
  bw_b1 (bw_rd 110 rd_34 x1_21) fun v40 =>
  if v40 = (-1) then
    some (0, pl_31, to, rd_34)
  else
    bw_b2 (fX6_takes buf bm pl_31 58) fun r48 pl_48 =>
    if r48 = 0 then
      some (0, pl_48, to, rd_34)
    else
      bw_b2 (fX6_number buf bm pl_48 0 99) fun r67 pl_67 =>
      bw_b1 (bw_wr 110 rd_34 (x1_21 + 1) r67) fun rd_70 =>
      bw_b1 (bw_rd 110 rd_70 (x1_21 + 1)) fun v78 =>
      if v78 = (-1) then
        some (0, pl_67, to, rd_70)
      else
        bw_b2 (fX6_takes buf bm pl_67 58) fun r86 pl_86 =>
        if r86 = 0 then
          some (0, pl_86, to, rd_70)
        else
          bw_let ((to + 1) : Int32) fun to_101 =>
          bw_b3 (fX6_tasks buf bm pl_86 rd_70 x1_21) fun r106 pl_106 rd_106 =>
          bw_bool r106 (some (r106, pl_106, to_101, rd_106))
def fX6_readProject (buf : bw_A1) (bm : Int32) (pl : Int32) (to : Int32) (rd : bw_A1) : Option (Int32 × Int32 × Int32 × bw_A1) :=
  if 9 ≤ to then
    jX6_readProject_20 buf bm pl to rd 9 11
  else
    jX6_readProject_20 buf bm pl to rd to 11
def jX6_isPlan_55 (buf : bw_A1) (bm : Int32) (pl : Int32) (to : Int32) (rd : bw_A1) : Option (Int32 × Int32 × Int32 × bw_A1) :=
  some (0, pl, to, rd)
def jX6_isPlan_36 (buf : bw_A1) (bm : Int32) (pl : Int32) (to : Int32) (rd : bw_A1) (x1 : Int32) : Option (Int32 × Int32 × Int32 × bw_A1) :=
  if x1 = 0 then
    jX6_isPlan_55 buf bm pl to rd
  else
    if pl = bm then
      some (1, pl, to, rd)
    else
      jX6_isPlan_55 buf bm pl to rd
def bX6_isPlan_15 (k15 : Int32 → Int32 → bw_A1 → Int32 → Option (Int32 × Int32 × Int32 × bw_A1)) (buf : bw_A1) (bm : Int32) (pl : Int32) (to : Int32) (rd : bw_A1) (x1 : Int32) : Option (Int32 × Int32 × Int32 × bw_A1) :=
  if x1 = 0 then
    jX6_isPlan_36 buf bm pl to rd x1
  else
    bw_b2 (fX6_takes buf bm pl 59) fun r22 pl_22 =>
    if r22 = 0 then
      jX6_isPlan_36 buf bm pl_22 to rd x1
    else
      bw_b4 (fX6_readProject buf bm pl_22 to rd) fun r29 pl_29 to_29 rd_29 =>
      k15 pl_29 to_29 rd_29 r29
def lX6_isPlan_15 (buf : bw_A1) (bm : Int32) : Nat → Int32 → Int32 → bw_A1 → Int32 → Option (Int32 × Int32 × Int32 × bw_A1)
  | 0 => fun _ _ _ _ => none
  | n + 1 => bX6_isPlan_15  (lX6_isPlan_15 buf bm n) buf bm
def fX6_isPlan (buf : bw_A1) (bm : Int32) (pl : Int32) (to : Int32) (rd : bw_A1) : Option (Int32 × Int32 × Int32 × bw_A1) :=
  bw_b4 (fX6_readProject buf bm 0 0 rd) fun r11 pl_11 to_11 rd_11 =>
  lX6_isPlan_15 buf bm bw_fu pl_11 to_11 rd_11 r11
def fX6_firstError (buf : bw_A1) (bm : Int32) (th : Int32) (pl : Int32) (to : Int32) (rd : bw_A1) : Option (Int32 × Int32 × Int32 × Int32 × bw_A1) :=
  bw_b4 (fX6_isPlan buf bm pl to rd) fun r6 pl_6 to_6 rd_6 =>
  if r6 = 0 then
    some (pl_6, 0, pl_6, to_6, rd_6)
  else
    some (bm, 0, pl_6, to_6, rd_6)
def bX6_openAll_79 (k46 : bw_A1 → Int32 → Option (Int32 × bw_A1 × bw_A1 × Int32 × Int32 × Int32 × Int32 × Int32 × bw_A1)) (k79 : bw_A1 → Int32 → Option (Int32 × bw_A1 × bw_A1 × Int32 × Int32 × Int32 × Int32 × Int32 × bw_A1)) (rows : bw_A1) (sm : Int32) (buf : bw_A1) (bm : Int32) (th : Int32) (pl : Int32) (to : Int32) (rd : bw_A1) (x1 : Int32) (x2 : Int32) (z : bw_A1) (x3 : Int32) : Option (Int32 × bw_A1 × bw_A1 × Int32 × Int32 × Int32 × Int32 × Int32 × bw_A1) :=
  bw_b1 (bw_rd 110 rd (x2 + 2)) fun v87 =>
  if v87 ≤ x3 then
    bw_let (x1 + 1 : Int32) fun x1_119 =>
    k46 z x1_119
  else
    bw_b1 (bw_rd 444 z 0) fun v97 =>
    bw_b1 (bw_rd 110 rd ((x2 + 3) + x3)) fun v109 =>
    bw_b1 (fX6_planNow z (v97 - 1) v109) fun z_110 =>
    bw_let (x3 + 1 : Int32) fun x3_113 =>
    k79 z_110 x3_113
def lX6_openAll_79 (k46 : bw_A1 → Int32 → Option (Int32 × bw_A1 × bw_A1 × Int32 × Int32 × Int32 × Int32 × Int32 × bw_A1)) (rows : bw_A1) (sm : Int32) (buf : bw_A1) (bm : Int32) (th : Int32) (pl : Int32) (to : Int32) (rd : bw_A1) (x1 : Int32) (x2 : Int32) : Nat → bw_A1 → Int32 → Option (Int32 × bw_A1 × bw_A1 × Int32 × Int32 × Int32 × Int32 × Int32 × bw_A1)
  | 0 => fun _ _ => none
  | n + 1 => bX6_openAll_79 k46 (lX6_openAll_79 k46 rows sm buf bm th pl to rd x1 x2 n) rows sm buf bm th pl to rd x1 x2
def bX6_openAll_46 (k46 : bw_A1 → Int32 → Option (Int32 × bw_A1 × bw_A1 × Int32 × Int32 × Int32 × Int32 × Int32 × bw_A1)) (rows : bw_A1) (sm : Int32) (buf : bw_A1) (bm : Int32) (th : Int32) (pl : Int32) (to : Int32) (rd : bw_A1) (z : bw_A1) (x1 : Int32) : Option (Int32 × bw_A1 × bw_A1 × Int32 × Int32 × Int32 × Int32 × Int32 × bw_A1) :=
  if to ≤ x1 then
    bw_b1 (bw_rd 444 z 0) fun v135 =>
    some (v135, z, rows, sm, 0, th, pl, to, rd)
  else
    bw_let ((11 * x1) : Int32) fun x2_58 =>
    bw_b1 (bw_rd 110 rd x2_58) fun v65 =>
    bw_b1 (bw_rd 110 rd (x2_58 + 1)) fun v73 =>
    bw_b1 (fX6_openNow z v65 v73) fun z_74 =>
    lX6_openAll_79 k46 rows sm buf bm th pl to rd x1 x2_58 bw_fu z_74 0
def lX6_openAll_46 (rows : bw_A1) (sm : Int32) (buf : bw_A1) (bm : Int32) (th : Int32) (pl : Int32) (to : Int32) (rd : bw_A1) : Nat → bw_A1 → Int32 → Option (Int32 × bw_A1 × bw_A1 × Int32 × Int32 × Int32 × Int32 × Int32 × bw_A1)
  | 0 => fun _ _ => none
  | n + 1 => bX6_openAll_46  (lX6_openAll_46 rows sm buf bm th pl to rd n) rows sm buf bm th pl to rd
def fX6_openAll (z : bw_A1) (rows : bw_A1) (sm : Int32) (buf : bw_A1) (bm : Int32) (th : Int32) (pl : Int32) (to : Int32) (rd : bw_A1) : Option (Int32 × bw_A1 × bw_A1 × Int32 × Int32 × Int32 × Int32 × Int32 × bw_A1) :=
  bw_b4 (fX6_isPlan buf bm pl to rd) fun r6 pl_6 to_6 rd_6 =>
  if r6 = 0 then
    bw_b2 (fX6_fails 0 1) fun r14 th_14 =>
    some (r14, z, rows, sm, bm, th_14, pl_6, to_6, rd_6)
  else
    bw_b1 (bw_rd 444 z 0) fun v23 =>
    if (v23 + to_6) ≤ 6 then
      bw_b2 (fX6_save z rows sm) fun rows_41 sm_41 =>
      lX6_openAll_46 rows_41 sm_41 buf bm 0 pl_6 to_6 rd_6 bw_fu z 0
    else
      bw_b2 (fX6_fails 0 2) fun r36 th_36 =>
      some (r36, z, rows, sm, bm, th_36, pl_6, to_6, rd_6)
def bX6_undo_30 (k30 : bw_A1 → Int32 → Option (Int32 × bw_A1 × Int32 × Int32)) (rows : bw_A1) (sm : Int32) (th : Int32) (z : bw_A1) (x1 : Int32) : Option (Int32 × bw_A1 × Int32 × Int32) :=
  if 444 ≤ x1 then
    some (sm, z, sm, th)
  else
    bw_b1 (bw_rd 2664 rows ((444 * sm) + x1)) fun v56 =>
    bw_b1 (bw_wr 444 z x1 v56) fun z_57 =>
    bw_let (x1 + 1 : Int32) fun x1_58 =>
    k30 z_57 x1_58
def lX6_undo_30 (rows : bw_A1) (sm : Int32) (th : Int32) : Nat → bw_A1 → Int32 → Option (Int32 × bw_A1 × Int32 × Int32)
  | 0 => fun _ _ => none
  | n + 1 => bX6_undo_30  (lX6_undo_30 rows sm th n) rows sm th
def fX6_undo (z : bw_A1) (rows : bw_A1) (sm : Int32) (th : Int32) : Option (Int32 × bw_A1 × Int32 × Int32) :=
  if sm = 0 then
    bw_b2 (fX6_fails 0 1) fun r14 th_14 =>
    some (r14, z, sm, th_14)
  else
    bw_let ((sm - 1) : Int32) fun sm_25 =>
    lX6_undo_30 rows sm_25 0 bw_fu z 0
def bX6_planned_4 (k4 : Int32 → Int32 → Option Int32) (z : bw_A1) (x1 : Int32) (x2 : Int32) (x3 : Int32) : Option Int32 :=
  bw_b1 (fX6_at x1) fun r10 =>
  bw_b1 (bw_rd 444 z (r10 + 5)) fun v15 =>
  if v15 ≤ x3 then
    some x2
  else
    bw_b1 (fX6_at x1) fun r25 =>
    bw_b1 (bw_rd 444 z ((r25 + 10) + x3)) fun v33 =>
    bw_let ((x2 + v33) : Int32) fun x2_35 =>
    bw_let (x3 + 1 : Int32) fun x3_36 =>
    k4 x2_35 x3_36
def lX6_planned_4 (z : bw_A1) (x1 : Int32) : Nat → Int32 → Int32 → Option Int32
  | 0 => fun _ _ => none
  | n + 1 => bX6_planned_4  (lX6_planned_4 z x1 n) z x1
def fX6_planned (z : bw_A1) (p1 : Int32) : Option Int32 :=
  lX6_planned_4 z p1 bw_fu 0 0
def bX6_spent_4 (k4 : Int32 → Int32 → Option Int32) (z : bw_A1) (x1 : Int32) (x2 : Int32) (x3 : Int32) : Option Int32 :=
  bw_b1 (fX6_at x1) fun r10 =>
  bw_b1 (bw_rd 444 z (r10 + 6)) fun v16 =>
  if v16 ≤ x3 then
    some x2
  else
    bw_b1 (fX6_at x1) fun r26 =>
    bw_b1 (bw_rd 444 z ((r26 + 18) + x3)) fun v34 =>
    bw_let ((x2 + v34) : Int32) fun x2_36 =>
    bw_let (x3 + 1 : Int32) fun x3_37 =>
    k4 x2_36 x3_37
def lX6_spent_4 (z : bw_A1) (x1 : Int32) : Nat → Int32 → Int32 → Option Int32
  | 0 => fun _ _ => none
  | n + 1 => bX6_spent_4  (lX6_spent_4 z x1 n) z x1
def fX6_spent (z : bw_A1) (p1 : Int32) : Option Int32 :=
  lX6_spent_4 z p1 bw_fu 0 0
def jX6_projectOf_76 (z : bw_A1) (x2 : Int32) (x3 : Int32) : Option Int32 :=
  bw_b1 (bw_rd 444 z (x3 + x2)) fun v83 =>
  some v83
def fX6_projectOf (z : bw_A1) (p1 : Int32) (p2 : Int32) : Option Int32 :=
  bw_b1 (fX6_at p1) fun r1 =>
  if p2 = 0 then
    jX6_projectOf_76 z p2 r1
  else
    if p2 = 1 then
      jX6_projectOf_76 z p2 r1
    else
      if p2 = 2 then
        jX6_projectOf_76 z p2 r1
      else
        if p2 = 3 then
          jX6_projectOf_76 z p2 r1
        else
          if p2 = 4 then
            bw_b1 (fX6_owedBy z p1) fun r87 =>
            some r87
          else
            if p2 = 5 then
              bw_b1 (fX6_lentBy z p1) fun r93 =>
              some r93
            else
              if p2 = 6 then
                bw_b1 (bw_rd 444 z (r1 + 4)) fun v104 =>
                some v104
              else
                if p2 = 7 then
                  bw_b1 (bw_rd 444 z (r1 + 5)) fun v113 =>
                  some v113
                else
                  if p2 = 8 then
                    bw_b1 (bw_rd 444 z (r1 + 6)) fun v123 =>
                    some v123
                  else
                    if p2 = 9 then
                      bw_b1 (bw_rd 444 z (r1 + 7)) fun v133 =>
                      some v133
                    else
                      if p2 = 10 then
                        bw_b1 (bw_rd 444 z (r1 + 8)) fun v143 =>
                        some v143
                      else
                        if p2 = 11 then
                          bw_b1 (bw_rd 444 z (r1 + 9)) fun v153 =>
                          some v153
                        else
                          if p2 = 12 then
                            bw_b1 (fX6_planned z p1) fun r157 =>
                            some r157
                          else
                            if p2 = 13 then
                              bw_b1 (fX6_spent z p1) fun r163 =>
                              some r163
                            else
                              bw_b1 (fX6_canLend z p1) fun r169 =>
                              some r169
def fX6_project (z : bw_A1) (th : Int32) (p1 : Int32) (p2 : Int32) : Option (Int32 × Int32) :=
  bw_b1 (fX6_isProject z p1) fun r7 =>
  if r7 = 0 then
    bw_b2 (fX6_fails 0 1) fun r15 th_15 =>
    some (r15, th_15)
  else
    bw_b1 (fX6_in p2 0 14) fun r23 =>
    if r23 = 0 then
      bw_b2 (fX6_fails 0 2) fun r40 th_40 =>
      some (r40, th_40)
    else
      bw_b1 (fX6_projectOf z p1 p2) fun r32 =>
      some (r32, 0)
def fX6_taskOf (z : bw_A1) (p1 : Int32) (p2 : Int32) (p3 : Int32) : Option Int32 :=
  bw_b1 (fX6_at p1) fun r1 =>
  if 2 ≤ p3 then
    bw_b1 (bw_rd 444 z ((((r1 + 26) + (4 * p2)) + p3) - 2)) fun v60 =>
    some v60
  else
    if p3 = 0 then
      bw_b1 (bw_rd 444 z ((r1 + 10) + p2)) fun v26 =>
      some v26
    else
      bw_b1 (bw_rd 444 z ((r1 + 18) + p2)) fun v41 =>
      some v41
def jX6_task_34 (z : bw_A1) (th : Int32) : Option (Int32 × Int32) :=
  bw_b2 (fX6_fails th 1) fun r36 th_36 =>
  some (r36, th_36)
def fX6_task (z : bw_A1) (th : Int32) (p1 : Int32) (p2 : Int32) (p3 : Int32) : Option (Int32 × Int32) :=
  bw_b1 (fX6_isProject z p1) fun r7 =>
  if r7 = 0 then
    jX6_task_34 z 0
  else
    bw_b1 (fX6_at p1) fun r20 =>
    bw_b1 (bw_rd 444 z (r20 + 5)) fun v25 =>
    bw_b1 (fX6_in p2 0 (v25 - 1)) fun r28 =>
    if r28 = 0 then
      jX6_task_34 z 0
    else
      bw_b1 (fX6_in p3 0 5) fun r43 =>
      if r43 = 0 then
        bw_b2 (fX6_fails 0 2) fun r61 th_61 =>
        some (r61, th_61)
      else
        bw_b1 (fX6_taskOf z p1 p2 p3) fun r53 =>
        some (r53, 0)
def fX6_loan (z : bw_A1) (th : Int32) (p1 : Int32) (p2 : Int32) : Option (Int32 × Int32) :=
  bw_b1 (bw_rd 444 z 1) fun v12 =>
  bw_b1 (fX6_in p1 0 (v12 - 1)) fun r15 =>
  if r15 = 0 then
    bw_b2 (fX6_fails 0 1) fun r23 th_23 =>
    some (r23, th_23)
  else
    bw_b1 (fX6_in p2 0 2) fun r30 =>
    if r30 = 0 then
      bw_b2 (fX6_fails 0 2) fun r52 th_52 =>
      some (r52, th_52)
    else
      bw_b1 (fX6_loanAt p1) fun r41 =>
      bw_b1 (bw_rd 444 z (r41 + p2)) fun v46 =>
      some (v46, 0)
def jX6_owed_30 (z : bw_A1) (th : Int32) : Option (Int32 × Int32) :=
  bw_b2 (fX6_fails th 1) fun r32 th_32 =>
  some (r32, th_32)
def fX6_owed (z : bw_A1) (th : Int32) (p1 : Int32) (p2 : Int32) : Option (Int32 × Int32) :=
  bw_b1 (fX6_isProject z p1) fun r7 =>
  if r7 = 0 then
    jX6_owed_30 z 0
  else
    bw_b1 (fX6_isProject z p2) fun r15 =>
    if r15 = 0 then
      jX6_owed_30 z 0
    else
      bw_b1 (fX6_owedOf z p1 p2) fun r24 =>
      some (r24, 0)
def fX6_lenderOf (z : bw_A1) (od : bw_A1) (om : Int32) (p1 : Int32) (p2 : Int32) : Option (Int32 × bw_A1 × Int32) :=
  bw_b2 (fX6_layOrder z od om p1) fun od_2 om_2 =>
  if om_2 ≤ p2 then
    some ((-1), od_2, om_2)
  else
    bw_b1 (bw_rd 6 od_2 p2) fun v18 =>
    some (v18, od_2, om_2)
def fX6_lender (z : bw_A1) (th : Int32) (od : bw_A1) (om : Int32) (p1 : Int32) (p2 : Int32) : Option (Int32 × Int32 × bw_A1 × Int32) :=
  bw_b1 (fX6_isProject z p1) fun r7 =>
  if r7 = 0 then
    bw_b2 (fX6_fails 0 1) fun r15 th_15 =>
    some (r15, th_15, od, om)
  else
    bw_b1 (fX6_in p2 0 4) fun r22 =>
    if r22 = 0 then
      bw_b2 (fX6_fails 0 2) fun r39 th_39 =>
      some (r39, th_39, od, om)
    else
      bw_b3 (fX6_lenderOf z od om p1 p2) fun r31 od_31 om_31 =>
      some (r31, 0, od_31, om_31)
def bX6_ofProjects_4 (k4 : Int32 → Int32 → Option Int32) (z : bw_A1) (x1 : Int32) (x2 : Int32) (x3 : Int32) : Option Int32 :=
  bw_b1 (bw_rd 444 z 0) fun v10 =>
  if v10 ≤ x3 then
    some x2
  else
    bw_b1 (fX6_projectOf z x3 x1) fun r18 =>
    bw_let ((x2 + r18) : Int32) fun x2_22 =>
    bw_let (x3 + 1 : Int32) fun x3_23 =>
    k4 x2_22 x3_23
def lX6_ofProjects_4 (z : bw_A1) (x1 : Int32) : Nat → Int32 → Int32 → Option Int32
  | 0 => fun _ _ => none
  | n + 1 => bX6_ofProjects_4  (lX6_ofProjects_4 z x1 n) z x1
def fX6_ofProjects (z : bw_A1) (p1 : Int32) : Option Int32 :=
  lX6_ofProjects_4 z p1 bw_fu 0 0
def jX6_delays_61 (k4 : Int32 → Int32 → Option Int32) (k16 : Int32 → Int32 → Option Int32) (z : bw_A1) (x2 : Int32) (x3 : Int32) (s0 : Int32) (s1 : Int32) : Option Int32 :=
  bw_let ((s1 + s0) : Int32) fun x1_62 =>
  bw_let (x3 + 1 : Int32) fun x3_63 =>
  k16 x1_62 x3_63
def bX6_delays_16 (k4 : Int32 → Int32 → Option Int32) (k16 : Int32 → Int32 → Option Int32) (z : bw_A1) (x2 : Int32) (x1 : Int32) (x3 : Int32) : Option Int32 :=
  bw_b1 (fX6_at x2) fun r22 =>
  bw_b1 (bw_rd 444 z (r22 + 6)) fun v28 =>
  if v28 ≤ x3 then
    bw_let (x2 + 1 : Int32) fun x2_69 =>
    k4 x1 x2_69
  else
    bw_b1 (fX6_taskOf z x2 x3 1) fun r36 =>
    bw_b1 (fX6_taskOf z x2 x3 0) fun r43 =>
    bw_let ((r36 - r43) : Int32) fun x4_47 =>
    if x4_47 ≤ 0 then
      jX6_delays_61 k4 k16 z x2 x3 0 x1
    else
      jX6_delays_61 k4 k16 z x2 x3 x4_47 x1
def lX6_delays_16 (k4 : Int32 → Int32 → Option Int32) (z : bw_A1) (x2 : Int32) : Nat → Int32 → Int32 → Option Int32
  | 0 => fun _ _ => none
  | n + 1 => bX6_delays_16 k4 (lX6_delays_16 k4 z x2 n) z x2
def bX6_delays_4 (k4 : Int32 → Int32 → Option Int32) (z : bw_A1) (x1 : Int32) (x2 : Int32) : Option Int32 :=
  bw_b1 (bw_rd 444 z 0) fun v10 =>
  if v10 ≤ x2 then
    some x1
  else
    lX6_delays_16 k4 z x2 bw_fu x1 0
def lX6_delays_4 (z : bw_A1) : Nat → Int32 → Int32 → Option Int32
  | 0 => fun _ _ => none
  | n + 1 => bX6_delays_4  (lX6_delays_4 z n) z
def fX6_delays (z : bw_A1) : Option Int32 :=
  lX6_delays_4 z bw_fu 0 0
def fX6_counted (z : bw_A1) (sm : Int32) (p1 : Int32) : Option Int32 :=
  if p1 = 0 then
    bw_b1 (bw_rd 444 z 0) fun v57 =>
    some v57
  else
    if p1 = 1 then
      bw_b1 (fX6_ofProjects z 9) fun r62 =>
      some r62
    else
      if p1 = 2 then
        bw_b1 (bw_rd 444 z 1) fun v71 =>
        some v71
      else
        if p1 = 3 then
          bw_b1 (fX6_ofProjects z 4) fun r75 =>
          some r75
        else
          if p1 = 4 then
            bw_b1 (fX6_ofProjects z 2) fun r81 =>
            some r81
          else
            if p1 = 5 then
              bw_b1 (fX6_ofProjects z 6) fun r88 =>
              some r88
            else
              if p1 = 6 then
                bw_b1 (fX6_ofProjects z 8) fun r95 =>
                some r95
              else
                if p1 = 7 then
                  bw_b1 (fX6_delays z) fun r100 =>
                  some r100
                else
                  if p1 = 8 then
                    bw_b1 (bw_rd 444 z 2) fun v109 =>
                    some v109
                  else
                    some sm
def fX6_count (z : bw_A1) (sm : Int32) (th : Int32) (p1 : Int32) : Option (Int32 × Int32) :=
  bw_b1 (fX6_in p1 0 9) fun r9 =>
  if r9 = 0 then
    bw_b2 (fX6_fails 0 1) fun r25 th_25 =>
    some (r25, th_25)
  else
    bw_b1 (fX6_counted z sm p1) fun r17 =>
    some (r17, 0)
def fX6_setting (z : bw_A1) (th : Int32) (p1 : Int32) : Option (Int32 × Int32) :=
  bw_b1 (fX6_in p1 0 2) fun r8 =>
  if r8 = 0 then
    bw_b2 (fX6_fails 0 1) fun r27 th_27 =>
    some (r27, th_27)
  else
    bw_b1 (bw_rd 444 z (3 + p1)) fun v21 =>
    some (v21, 0)
def jX6_doneOf_79 (z : bw_A1) (asd : bw_A1) (od : bw_A1) (om : Int32) (ow : Int32) (ca : Int32) (bo : Int32) (la : Int32) (s0 : Int32) : Option (Int32 × bw_A1 × bw_A1 × bw_A1 × Int32 × Int32 × Int32 × Int32 × Int32) :=
  bw_b1 (fX6_putBack z asd) fun z_82 =>
  some (s0, z_82, asd, od, om, ow, ca, bo, la)
def fX6_doneOf (z : bw_A1) (asd : bw_A1) (od : bw_A1) (om : Int32) (ow : Int32) (ca : Int32) (bo : Int32) (la : Int32) (p1 : Int32) (p2 : Int32) (p3 : Int32) : Option (Int32 × bw_A1 × bw_A1 × bw_A1 × Int32 × Int32 × Int32 × Int32 × Int32) :=
  bw_b1 (fX6_mayDo z p1) fun r2 =>
  if r2 = 0 then
    some ((-1), z, asd, od, om, ow, ca, bo, la)
  else
    bw_b1 (fX6_putAside z asd) fun asd_11 =>
    bw_b7 (fX6_doNow z od om ow ca bo la p1 p2) fun z_17 od_17 om_17 ow_17 ca_17 bo_17 la_17 =>
    if p3 = 0 then
      jX6_doneOf_79 z_17 asd_11 od_17 om_17 ow_17 ca_17 bo_17 la_17 la_17
    else
      if p3 = 1 then
        jX6_doneOf_79 z_17 asd_11 od_17 om_17 ow_17 ca_17 bo_17 la_17 bo_17
      else
        if p3 = 2 then
          jX6_doneOf_79 z_17 asd_11 od_17 om_17 ow_17 ca_17 bo_17 la_17 ca_17
        else
          if p3 = 3 then
            bw_b1 (fX6_at p1) fun r65 =>
            bw_b1 (bw_rd 444 z_17 (r65 + 2)) fun v70 =>
            jX6_doneOf_79 z_17 asd_11 od_17 om_17 ow_17 ca_17 bo_17 la_17 v70
          else
            bw_b1 (fX6_owedBy z_17 p1) fun r76 =>
            jX6_doneOf_79 z_17 asd_11 od_17 om_17 ow_17 ca_17 bo_17 la_17 r76
def jX6_ifDone_49 (z : bw_A1) (asd : bw_A1) (th : Int32) (od : bw_A1) (om : Int32) (ow : Int32) (ca : Int32) (bo : Int32) (la : Int32) : Option (Int32 × bw_A1 × bw_A1 × Int32 × bw_A1 × Int32 × Int32 × Int32 × Int32 × Int32) :=
  bw_b2 (fX6_fails th 2) fun r51 th_51 =>
  some (r51, z, asd, th_51, od, om, ow, ca, bo, la)
def fX6_ifDone (z : bw_A1) (asd : bw_A1) (th : Int32) (od : bw_A1) (om : Int32) (ow : Int32) (ca : Int32) (bo : Int32) (la : Int32) (p1 : Int32) (p2 : Int32) (p3 : Int32) : Option (Int32 × bw_A1 × bw_A1 × Int32 × bw_A1 × Int32 × Int32 × Int32 × Int32 × Int32) :=
  bw_b1 (fX6_isProject z p1) fun r7 =>
  if r7 = 0 then
    bw_b2 (fX6_fails 0 1) fun r15 th_15 =>
    some (r15, z, asd, th_15, od, om, ow, ca, bo, la)
  else
    bw_b1 (fX6_in p2 0 300) fun r24 =>
    if r24 = 0 then
      jX6_ifDone_49 z asd 0 od om ow ca bo la
    else
      bw_b1 (fX6_in p3 0 4) fun r33 =>
      if r33 = 0 then
        jX6_ifDone_49 z asd 0 od om ow ca bo la
      else
        bw_b9 (fX6_doneOf z asd od om ow ca bo la p1 p2 p3) fun r43 z_43 asd_43 od_43 om_43 ow_43 ca_43 bo_43 la_43 =>
        some (r43, z_43, asd_43, 0, od_43, om_43, ow_43, ca_43, bo_43, la_43)
def fX6_bornBy (z : bw_A1) (asd : bw_A1) (od : bw_A1) (om : Int32) (ow : Int32) (ca : Int32) (bo : Int32) (la : Int32) (p1 : Int32) : Option (Int32 × bw_A1 × bw_A1 × bw_A1 × Int32 × Int32 × Int32 × Int32 × Int32) :=
  bw_b1 (fX6_isOpen z p1) fun r2 =>
  if r2 = 0 then
    some ((-1), z, asd, od, om, ow, ca, bo, la)
  else
    bw_b1 (fX6_putAside z asd) fun asd_11 =>
    bw_b7 (fX6_charge z od om ow ca bo la p1 1000000) fun z_18 od_18 om_18 ow_18 ca_18 bo_18 la_18 =>
    bw_let ((1000000 - la_18) : Int32) fun x2_28 =>
    bw_b1 (fX6_putBack z_18 asd_11) fun z_30 =>
    some (x2_28, z_30, asd_11, od_18, om_18, ow_18, ca_18, bo_18, la_18)
def fX6_bears (z : bw_A1) (asd : bw_A1) (th : Int32) (od : bw_A1) (om : Int32) (ow : Int32) (ca : Int32) (bo : Int32) (la : Int32) (p1 : Int32) : Option (Int32 × bw_A1 × bw_A1 × Int32 × bw_A1 × Int32 × Int32 × Int32 × Int32 × Int32) :=
  bw_b1 (fX6_isProject z p1) fun r7 =>
  if r7 = 0 then
    bw_b2 (fX6_fails 0 1) fun r23 th_23 =>
    some (r23, z, asd, th_23, od, om, ow, ca, bo, la)
  else
    bw_b9 (fX6_bornBy z asd od om ow ca bo la p1) fun r15 z_15 asd_15 od_15 om_15 ow_15 ca_15 bo_15 la_15 =>
    some (r15, z_15, asd_15, 0, od_15, om_15, ow_15, ca_15, bo_15, la_15)
def jX6_weakestOf_69 (k6 : bw_A1 → bw_A1 → bw_A1 → Int32 → Int32 → Int32 → Int32 → Int32 → Int32 → Int32 → Int32 → Option (Int32 × bw_A1 × bw_A1 × bw_A1 × Int32 × Int32 × Int32 × Int32 × Int32)) (z : bw_A1) (asd : bw_A1) (od : bw_A1) (om : Int32) (ow : Int32) (ca : Int32) (bo : Int32) (la : Int32) (x1 : Int32) (x3 : Int32) (s0 : Int32) : Option (Int32 × bw_A1 × bw_A1 × bw_A1 × Int32 × Int32 × Int32 × Int32 × Int32) :=
  bw_let (x3 + 1 : Int32) fun x3_70 =>
  k6 z asd od om ow ca bo la x1 s0 x3_70
def jX6_weakestOf_57 (k6 : bw_A1 → bw_A1 → bw_A1 → Int32 → Int32 → Int32 → Int32 → Int32 → Int32 → Int32 → Int32 → Option (Int32 × bw_A1 × bw_A1 × bw_A1 × Int32 × Int32 × Int32 × Int32 × Int32)) (z : bw_A1) (asd : bw_A1) (od : bw_A1) (om : Int32) (ow : Int32) (ca : Int32) (bo : Int32) (la : Int32) (x2 : Int32) (x3 : Int32) (x4 : Int32) (x5 : Int32) (s0 : Int32) : Option (Int32 × bw_A1 × bw_A1 × bw_A1 × Int32 × Int32 × Int32 × Int32 × Int32) :=
  if x5 = 0 then
    jX6_weakestOf_69 k6 z asd od om ow ca bo la s0 x3 x2
  else
    jX6_weakestOf_69 k6 z asd od om ow ca bo la s0 x3 x4
def jX6_weakestOf_45 (k6 : bw_A1 → bw_A1 → bw_A1 → Int32 → Int32 → Int32 → Int32 → Int32 → Int32 → Int32 → Int32 → Option (Int32 × bw_A1 × bw_A1 × bw_A1 × Int32 × Int32 × Int32 × Int32 × Int32)) (z : bw_A1) (asd : bw_A1) (od : bw_A1) (om : Int32) (ow : Int32) (ca : Int32) (bo : Int32) (la : Int32) (x1 : Int32) (x2 : Int32) (x3 : Int32) (x4 : Int32) (s0 : Int32) : Option (Int32 × bw_A1 × bw_A1 × bw_A1 × Int32 × Int32 × Int32 × Int32 × Int32) :=
  if s0 = 0 then
    jX6_weakestOf_57 k6 z asd od om ow ca bo la x2 x3 x4 s0 x1
  else
    jX6_weakestOf_57 k6 z asd od om ow ca bo la x2 x3 x4 s0 x3
def jX6_weakestOf_44 (k6 : bw_A1 → bw_A1 → bw_A1 → Int32 → Int32 → Int32 → Int32 → Int32 → Int32 → Int32 → Int32 → Option (Int32 × bw_A1 × bw_A1 × bw_A1 × Int32 × Int32 × Int32 × Int32 × Int32)) (z : bw_A1) (asd : bw_A1) (od : bw_A1) (om : Int32) (ow : Int32) (ca : Int32) (bo : Int32) (la : Int32) (x1 : Int32) (x2 : Int32) (x3 : Int32) (x4 : Int32) : Option (Int32 × bw_A1 × bw_A1 × bw_A1 × Int32 × Int32 × Int32 × Int32 × Int32) :=
  jX6_weakestOf_45 k6 z asd od om ow ca bo la x1 x2 x3 x4 0
def jX6_weakestOf_40 (k6 : bw_A1 → bw_A1 → bw_A1 → Int32 → Int32 → Int32 → Int32 → Int32 → Int32 → Int32 → Int32 → Option (Int32 × bw_A1 × bw_A1 × bw_A1 × Int32 × Int32 × Int32 × Int32 × Int32)) (z : bw_A1) (asd : bw_A1) (od : bw_A1) (om : Int32) (ow : Int32) (ca : Int32) (bo : Int32) (la : Int32) (x1 : Int32) (x2 : Int32) (x3 : Int32) (x4 : Int32) : Option (Int32 × bw_A1 × bw_A1 × bw_A1 × Int32 × Int32 × Int32 × Int32 × Int32) :=
  jX6_weakestOf_45 k6 z asd od om ow ca bo la x1 x2 x3 x4 1
def bX6_weakestOf_6 (k6 : bw_A1 → bw_A1 → bw_A1 → Int32 → Int32 → Int32 → Int32 → Int32 → Int32 → Int32 → Int32 → Option (Int32 × bw_A1 × bw_A1 × bw_A1 × Int32 × Int32 × Int32 × Int32 × Int32)) (z : bw_A1) (asd : bw_A1) (od : bw_A1) (om : Int32) (ow : Int32) (ca : Int32) (bo : Int32) (la : Int32) (x1 : Int32) (x2 : Int32) (x3 : Int32) : Option (Int32 × bw_A1 × bw_A1 × bw_A1 × Int32 × Int32 × Int32 × Int32 × Int32) :=
  bw_b1 (bw_rd 444 z 0) fun v12 =>
  if v12 ≤ x3 then
    some (x1, z, asd, od, om, ow, ca, bo, la)
  else
    bw_b9 (fX6_bornBy z asd od om ow ca bo la x3) fun r18 z_18 asd_18 od_18 om_18 ow_18 ca_18 bo_18 la_18 =>
    if r18 = (-1) then
      jX6_weakestOf_44 k6 z_18 asd_18 od_18 om_18 ow_18 ca_18 bo_18 la_18 x1 x2 x3 r18
    else
      if x1 = (-1) then
        jX6_weakestOf_40 k6 z_18 asd_18 od_18 om_18 ow_18 ca_18 bo_18 la_18 x1 x2 x3 r18
      else
        if x2 ≤ r18 then
          jX6_weakestOf_44 k6 z_18 asd_18 od_18 om_18 ow_18 ca_18 bo_18 la_18 x1 x2 x3 r18
        else
          jX6_weakestOf_40 k6 z_18 asd_18 od_18 om_18 ow_18 ca_18 bo_18 la_18 x1 x2 x3 r18
def lX6_weakestOf_6  : Nat → bw_A1 → bw_A1 → bw_A1 → Int32 → Int32 → Int32 → Int32 → Int32 → Int32 → Int32 → Int32 → Option (Int32 × bw_A1 × bw_A1 × bw_A1 × Int32 × Int32 × Int32 × Int32 × Int32)
  | 0 => fun _ _ _ _ _ _ _ _ _ _ _ => none
  | n + 1 => bX6_weakestOf_6  (lX6_weakestOf_6  n) 
def fX6_weakestOf (z : bw_A1) (asd : bw_A1) (od : bw_A1) (om : Int32) (ow : Int32) (ca : Int32) (bo : Int32) (la : Int32) : Option (Int32 × bw_A1 × bw_A1 × bw_A1 × Int32 × Int32 × Int32 × Int32 × Int32) :=
  lX6_weakestOf_6 bw_fu z asd od om ow ca bo la (-1) 0 0
def fX6_weakest (z : bw_A1) (asd : bw_A1) (th : Int32) (od : bw_A1) (om : Int32) (ow : Int32) (ca : Int32) (bo : Int32) (la : Int32) : Option (Int32 × bw_A1 × bw_A1 × Int32 × bw_A1 × Int32 × Int32 × Int32 × Int32 × Int32) :=
  bw_b9 (fX6_weakestOf z asd od om ow ca bo la) fun r6 z_6 asd_6 od_6 om_6 ow_6 ca_6 bo_6 la_6 =>
  some (r6, z_6, asd_6, 0, od_6, om_6, ow_6, ca_6, bo_6, la_6)
def jX6_leastLeft_53 (k5 : Int32 → Int32 → Option Int32) (z : bw_A1) (x2 : Int32) (s0 : Int32) : Option Int32 :=
  bw_let (x2 + 1 : Int32) fun x2_54 =>
  k5 s0 x2_54
def jX6_leastLeft_52 (k5 : Int32 → Int32 → Option Int32) (z : bw_A1) (x1 : Int32) (x2 : Int32) : Option Int32 :=
  jX6_leastLeft_53 k5 z x2 x1
def bX6_leastLeft_5 (k5 : Int32 → Int32 → Option Int32) (z : bw_A1) (x1 : Int32) (x2 : Int32) : Option Int32 :=
  bw_b1 (bw_rd 444 z 0) fun v11 =>
  if v11 ≤ x2 then
    some x1
  else
    bw_b1 (fX6_isOpen z x2) fun r17 =>
    if r17 = 0 then
      jX6_leastLeft_52 k5 z x1 x2
    else
      bw_b1 (fX6_at x2) fun r28 =>
      bw_b1 (bw_rd 444 z (r28 + 2)) fun v33 =>
      if x1 ≤ v33 then
        jX6_leastLeft_52 k5 z x1 x2
      else
        bw_b1 (fX6_at x2) fun r43 =>
        bw_b1 (bw_rd 444 z (r43 + 2)) fun v48 =>
        jX6_leastLeft_53 k5 z x2 v48
def lX6_leastLeft_5 (z : bw_A1) : Nat → Int32 → Int32 → Option Int32
  | 0 => fun _ _ => none
  | n + 1 => bX6_leastLeft_5  (lX6_leastLeft_5 z n) z
def fX6_leastLeft (z : bw_A1) : Option Int32 :=
  lX6_leastLeft_5 z bw_fu 1000000 0
def jX6_ruleOf_80 (k18 : bw_A1 → bw_A1 → bw_A1 → Int32 → Int32 → Int32 → Int32 → Int32 → Int32 → Int32 → Int32 → Option (Int32 × bw_A1 × bw_A1 × bw_A1 × Int32 × Int32 × Int32 × Int32 × Int32)) (z : bw_A1) (asd : bw_A1) (od : bw_A1) (om : Int32) (ow : Int32) (ca : Int32) (bo : Int32) (la : Int32) (x1 : Int32) (x2 : Int32) (x3 : Int32) (x5 : Int32) (s0 : Int32) : Option (Int32 × bw_A1 × bw_A1 × bw_A1 × Int32 × Int32 × Int32 × Int32 × Int32) :=
  bw_let (x5 + 1 : Int32) fun x5_82 =>
  k18 z asd od om ow ca bo la x3 s0 x5_82
def jX6_ruleOf_65 (k18 : bw_A1 → bw_A1 → bw_A1 → Int32 → Int32 → Int32 → Int32 → Int32 → Int32 → Int32 → Int32 → Option (Int32 × bw_A1 × bw_A1 × bw_A1 × Int32 × Int32 × Int32 × Int32 × Int32)) (z : bw_A1) (asd : bw_A1) (od : bw_A1) (om : Int32) (ow : Int32) (ca : Int32) (bo : Int32) (la : Int32) (x1 : Int32) (x2 : Int32) (x4 : Int32) (x5 : Int32) (x6 : Int32) (s0 : Int32) : Option (Int32 × bw_A1 × bw_A1 × bw_A1 × Int32 × Int32 × Int32 × Int32 × Int32) :=
  if x6 ≤ x4 then
    jX6_ruleOf_80 k18 z asd od om ow ca bo la x1 x2 s0 x5 x4
  else
    jX6_ruleOf_80 k18 z asd od om ow ca bo la x1 x2 s0 x5 x6
def bX6_ruleOf_18 (k18 : bw_A1 → bw_A1 → bw_A1 → Int32 → Int32 → Int32 → Int32 → Int32 → Int32 → Int32 → Int32 → Option (Int32 × bw_A1 × bw_A1 × bw_A1 × Int32 × Int32 × Int32 × Int32 × Int32)) (x1 : Int32) (x2 : Int32) (z : bw_A1) (asd : bw_A1) (od : bw_A1) (om : Int32) (ow : Int32) (ca : Int32) (bo : Int32) (la : Int32) (x3 : Int32) (x4 : Int32) (x5 : Int32) : Option (Int32 × bw_A1 × bw_A1 × bw_A1 × Int32 × Int32 × Int32 × Int32 × Int32) :=
  if 3 ≤ x5 then
    some (x3, z, asd, od, om, ow, ca, bo, la)
  else
    bw_b1 (fX6_putAside z asd) fun asd_25 =>
    bw_b1 (bw_wr 444 z 3 x5) fun z_35 =>
    bw_b7 (fX6_doNow z_35 od om ow ca bo la x1 x2) fun z_39 od_39 om_39 ow_39 ca_39 bo_39 la_39 =>
    bw_b1 (fX6_leastLeft z_39) fun r43 =>
    bw_b1 (fX6_putBack z_39 asd_25) fun z_49 =>
    if r43 ≤ x4 then
      jX6_ruleOf_65 k18 z_49 asd_25 od_39 om_39 ow_39 ca_39 bo_39 la_39 x1 x2 x4 x5 r43 x3
    else
      jX6_ruleOf_65 k18 z_49 asd_25 od_39 om_39 ow_39 ca_39 bo_39 la_39 x1 x2 x4 x5 r43 x5
def lX6_ruleOf_18 (x1 : Int32) (x2 : Int32) : Nat → bw_A1 → bw_A1 → bw_A1 → Int32 → Int32 → Int32 → Int32 → Int32 → Int32 → Int32 → Int32 → Option (Int32 × bw_A1 × bw_A1 × bw_A1 × Int32 × Int32 × Int32 × Int32 × Int32)
  | 0 => fun _ _ _ _ _ _ _ _ _ _ _ => none
  | n + 1 => bX6_ruleOf_18  (lX6_ruleOf_18 x1 x2 n) x1 x2
def fX6_ruleOf (z : bw_A1) (asd : bw_A1) (od : bw_A1) (om : Int32) (ow : Int32) (ca : Int32) (bo : Int32) (la : Int32) (p1 : Int32) (p2 : Int32) : Option (Int32 × bw_A1 × bw_A1 × bw_A1 × Int32 × Int32 × Int32 × Int32 × Int32) :=
  bw_b1 (fX6_mayDo z p1) fun r2 =>
  if r2 = 0 then
    some ((-1), z, asd, od, om, ow, ca, bo, la)
  else
    lX6_ruleOf_18 p1 p2 bw_fu z asd od om ow ca bo la (-1) (-1) 0
def fX6_bestRule (z : bw_A1) (asd : bw_A1) (th : Int32) (od : bw_A1) (om : Int32) (ow : Int32) (ca : Int32) (bo : Int32) (la : Int32) (p1 : Int32) (p2 : Int32) : Option (Int32 × bw_A1 × bw_A1 × Int32 × bw_A1 × Int32 × Int32 × Int32 × Int32 × Int32) :=
  bw_b1 (fX6_isProject z p1) fun r7 =>
  if r7 = 0 then
    bw_b2 (fX6_fails 0 1) fun r15 th_15 =>
    some (r15, z, asd, th_15, od, om, ow, ca, bo, la)
  else
    bw_b1 (fX6_in p2 0 300) fun r24 =>
    if r24 = 0 then
      bw_b2 (fX6_fails 0 2) fun r41 th_41 =>
      some (r41, z, asd, th_41, od, om, ow, ca, bo, la)
    else
      bw_b9 (fX6_ruleOf z asd od om ow ca bo la p1 p2) fun r33 z_33 asd_33 od_33 om_33 ow_33 ca_33 bo_33 la_33 =>
      some (r33, z_33, asd_33, 0, od_33, om_33, ow_33, ca_33, bo_33, la_33)
def fX6_shareOf (z : bw_A1) : Option UInt64 :=
  bw_b1 (fX6_delays z) fun r1 =>
  if r1 = 0 then
    some FP.dconst0
  else
    bw_b1 (fX6_ofProjects z 6) fun r16 =>
    bw_let (FP.ddiv (FP.i2d r16) (FP.i2d r1)) fun w22 => bw_num w22 <|
    some w22
def fX6_lateShare (z : bw_A1) (th : Int32) : Option (UInt64 × Int32) :=
  bw_b1 (fX6_shareOf z) fun r6 =>
  some (r6, 0)
def fX6_mix (hh : Int64) (p1 : Int64) : Option Int64 :=
  bw_let (((31 * hh) + p1) : Int64) fun hh_11 =>
  some hh_11
def bX6_mixProject_148 (k148 : Int64 → Int32 → Option (bw_A1 × bw_A1 × bw_A1 × Int32 × Int32 × Int32 × Int32 × Int32 × Int64)) (z : bw_A1) (asd : bw_A1) (od : bw_A1) (om : Int32) (ow : Int32) (ca : Int32) (bo : Int32) (la : Int32) (x1 : Int32) (hh : Int64) (x2 : Int32) : Option (bw_A1 × bw_A1 × bw_A1 × Int32 × Int32 × Int32 × Int32 × Int32 × Int64) :=
  bw_b1 (bw_rd 444 z 0) fun v154 =>
  if v154 ≤ x2 then
    some (z, asd, od, om, ow, ca, bo, la, hh)
  else
    bw_b1 (fX6_owedOf z x1 x2) fun r162 =>
    bw_b1 (fX6_mix hh (Int32.toInt64 r162)) fun hh_166 =>
    bw_let (x2 + 1 : Int32) fun x2_169 =>
    k148 hh_166 x2_169
def lX6_mixProject_148 (z : bw_A1) (asd : bw_A1) (od : bw_A1) (om : Int32) (ow : Int32) (ca : Int32) (bo : Int32) (la : Int32) (x1 : Int32) : Nat → Int64 → Int32 → Option (bw_A1 × bw_A1 × bw_A1 × Int32 × Int32 × Int32 × Int32 × Int32 × Int64)
  | 0 => fun _ _ => none
  | n + 1 => bX6_mixProject_148  (lX6_mixProject_148 z asd od om ow ca bo la x1 n) z asd od om ow ca bo la x1
def bX6_mixProject_110 (k110 : bw_A1 → bw_A1 → bw_A1 → Int32 → Int32 → Int32 → Int32 → Int32 → Int64 → Int32 → Option (bw_A1 × bw_A1 × bw_A1 × Int32 × Int32 × Int32 × Int32 × Int32 × Int64)) (x1 : Int32) (z : bw_A1) (asd : bw_A1) (od : bw_A1) (om : Int32) (ow : Int32) (ca : Int32) (bo : Int32) (la : Int32) (hh : Int64) (x2 : Int32) : Option (bw_A1 × bw_A1 × bw_A1 × Int32 × Int32 × Int32 × Int32 × Int32 × Int64) :=
  if 5 ≤ x2 then
    bw_b9 (fX6_ruleOf z asd od om ow ca bo la x1 60) fun r139 z_139 asd_139 od_139 om_139 ow_139 ca_139 bo_139 la_139 =>
    bw_b1 (fX6_mix hh (Int32.toInt64 r139)) fun hh_143 =>
    lX6_mixProject_148 z_139 asd_139 od_139 om_139 ow_139 ca_139 bo_139 la_139 x1 bw_fu hh_143 0
  else
    bw_b9 (fX6_doneOf z asd od om ow ca bo la x1 60 x2) fun r121 z_121 asd_121 od_121 om_121 ow_121 ca_121 bo_121 la_121 =>
    bw_b1 (fX6_mix hh (Int32.toInt64 r121)) fun hh_125 =>
    bw_let (x2 + 1 : Int32) fun x2_128 =>
    k110 z_121 asd_121 od_121 om_121 ow_121 ca_121 bo_121 la_121 hh_125 x2_128
def lX6_mixProject_110 (x1 : Int32) : Nat → bw_A1 → bw_A1 → bw_A1 → Int32 → Int32 → Int32 → Int32 → Int32 → Int64 → Int32 → Option (bw_A1 × bw_A1 × bw_A1 × Int32 × Int32 × Int32 × Int32 × Int32 × Int64)
  | 0 => fun _ _ _ _ _ _ _ _ _ _ => none
  | n + 1 => bX6_mixProject_110  (lX6_mixProject_110 x1 n) x1
def bX6_mixProject_76 (k76 : bw_A1 → Int32 → Int64 → Int32 → Option (bw_A1 × bw_A1 × bw_A1 × Int32 × Int32 × Int32 × Int32 × Int32 × Int64)) (z : bw_A1) (asd : bw_A1) (ow : Int32) (ca : Int32) (bo : Int32) (la : Int32) (x1 : Int32) (od : bw_A1) (om : Int32) (hh : Int64) (x2 : Int32) : Option (bw_A1 × bw_A1 × bw_A1 × Int32 × Int32 × Int32 × Int32 × Int32 × Int64) :=
  if 3 ≤ x2 then
    bw_b9 (fX6_bornBy z asd od om ow ca bo la x1) fun r101 z_101 asd_101 od_101 om_101 ow_101 ca_101 bo_101 la_101 =>
    bw_b1 (fX6_mix hh (Int32.toInt64 r101)) fun hh_105 =>
    lX6_mixProject_110 x1 bw_fu z_101 asd_101 od_101 om_101 ow_101 ca_101 bo_101 la_101 hh_105 0
  else
    bw_b3 (fX6_lenderOf z od om x1 x2) fun r85 od_85 om_85 =>
    bw_b1 (fX6_mix hh (Int32.toInt64 r85)) fun hh_89 =>
    bw_let (x2 + 1 : Int32) fun x2_92 =>
    k76 od_85 om_85 hh_89 x2_92
def lX6_mixProject_76 (z : bw_A1) (asd : bw_A1) (ow : Int32) (ca : Int32) (bo : Int32) (la : Int32) (x1 : Int32) : Nat → bw_A1 → Int32 → Int64 → Int32 → Option (bw_A1 × bw_A1 × bw_A1 × Int32 × Int32 × Int32 × Int32 × Int32 × Int64)
  | 0 => fun _ _ _ _ => none
  | n + 1 => bX6_mixProject_76  (lX6_mixProject_76 z asd ow ca bo la x1 n) z asd ow ca bo la x1
def bX6_mixProject_44 (k27 : Int64 → Int32 → Option (bw_A1 × bw_A1 × bw_A1 × Int32 × Int32 × Int32 × Int32 × Int32 × Int64)) (k44 : Int64 → Int32 → Option (bw_A1 × bw_A1 × bw_A1 × Int32 × Int32 × Int32 × Int32 × Int32 × Int64)) (z : bw_A1) (asd : bw_A1) (od : bw_A1) (om : Int32) (ow : Int32) (ca : Int32) (bo : Int32) (la : Int32) (x1 : Int32) (x2 : Int32) (hh : Int64) (x3 : Int32) : Option (bw_A1 × bw_A1 × bw_A1 × Int32 × Int32 × Int32 × Int32 × Int32 × Int64) :=
  if 6 ≤ x3 then
    bw_let (x2 + 1 : Int32) fun x2_68 =>
    k27 hh x2_68
  else
    bw_b1 (fX6_taskOf z x1 x2 x3) fun r55 =>
    bw_b1 (fX6_mix hh (Int32.toInt64 r55)) fun hh_59 =>
    bw_let (x3 + 1 : Int32) fun x3_62 =>
    k44 hh_59 x3_62
def lX6_mixProject_44 (k27 : Int64 → Int32 → Option (bw_A1 × bw_A1 × bw_A1 × Int32 × Int32 × Int32 × Int32 × Int32 × Int64)) (z : bw_A1) (asd : bw_A1) (od : bw_A1) (om : Int32) (ow : Int32) (ca : Int32) (bo : Int32) (la : Int32) (x1 : Int32) (x2 : Int32) : Nat → Int64 → Int32 → Option (bw_A1 × bw_A1 × bw_A1 × Int32 × Int32 × Int32 × Int32 × Int32 × Int64)
  | 0 => fun _ _ => none
  | n + 1 => bX6_mixProject_44 k27 (lX6_mixProject_44 k27 z asd od om ow ca bo la x1 x2 n) z asd od om ow ca bo la x1 x2
def bX6_mixProject_27 (k27 : Int64 → Int32 → Option (bw_A1 × bw_A1 × bw_A1 × Int32 × Int32 × Int32 × Int32 × Int32 × Int64)) (z : bw_A1) (asd : bw_A1) (od : bw_A1) (om : Int32) (ow : Int32) (ca : Int32) (bo : Int32) (la : Int32) (x1 : Int32) (hh : Int64) (x2 : Int32) : Option (bw_A1 × bw_A1 × bw_A1 × Int32 × Int32 × Int32 × Int32 × Int32 × Int64) :=
  bw_b1 (fX6_at x1) fun r33 =>
  bw_b1 (bw_rd 444 z (r33 + 5)) fun v38 =>
  if v38 ≤ x2 then
    lX6_mixProject_76 z asd ow ca bo la x1 bw_fu od om hh 0
  else
    lX6_mixProject_44 k27 z asd od om ow ca bo la x1 x2 bw_fu hh 0
def lX6_mixProject_27 (z : bw_A1) (asd : bw_A1) (od : bw_A1) (om : Int32) (ow : Int32) (ca : Int32) (bo : Int32) (la : Int32) (x1 : Int32) : Nat → Int64 → Int32 → Option (bw_A1 × bw_A1 × bw_A1 × Int32 × Int32 × Int32 × Int32 × Int32 × Int64)
  | 0 => fun _ _ => none
  | n + 1 => bX6_mixProject_27  (lX6_mixProject_27 z asd od om ow ca bo la x1 n) z asd od om ow ca bo la x1
def bX6_mixProject_2 (k2 : Int64 → Int32 → Option (bw_A1 × bw_A1 × bw_A1 × Int32 × Int32 × Int32 × Int32 × Int32 × Int64)) (z : bw_A1) (asd : bw_A1) (od : bw_A1) (om : Int32) (ow : Int32) (ca : Int32) (bo : Int32) (la : Int32) (x1 : Int32) (hh : Int64) (x2 : Int32) : Option (bw_A1 × bw_A1 × bw_A1 × Int32 × Int32 × Int32 × Int32 × Int32 × Int64) :=
  if 15 ≤ x2 then
    lX6_mixProject_27 z asd od om ow ca bo la x1 bw_fu hh 0
  else
    bw_b1 (fX6_projectOf z x1 x2) fun r12 =>
    bw_b1 (fX6_mix hh (Int32.toInt64 r12)) fun hh_16 =>
    bw_let (x2 + 1 : Int32) fun x2_19 =>
    k2 hh_16 x2_19
def lX6_mixProject_2 (z : bw_A1) (asd : bw_A1) (od : bw_A1) (om : Int32) (ow : Int32) (ca : Int32) (bo : Int32) (la : Int32) (x1 : Int32) : Nat → Int64 → Int32 → Option (bw_A1 × bw_A1 × bw_A1 × Int32 × Int32 × Int32 × Int32 × Int32 × Int64)
  | 0 => fun _ _ => none
  | n + 1 => bX6_mixProject_2  (lX6_mixProject_2 z asd od om ow ca bo la x1 n) z asd od om ow ca bo la x1
def fX6_mixProject (z : bw_A1) (asd : bw_A1) (od : bw_A1) (om : Int32) (ow : Int32) (ca : Int32) (bo : Int32) (la : Int32) (hh : Int64) (p1 : Int32) : Option (bw_A1 × bw_A1 × bw_A1 × Int32 × Int32 × Int32 × Int32 × Int32 × Int64) :=
  lX6_mixProject_2 z asd od om ow ca bo la p1 bw_fu hh 0
