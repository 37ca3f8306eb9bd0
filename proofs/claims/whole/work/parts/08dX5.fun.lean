def fX5_open (d : bw_A2) (sl : bw_A3) (hn : Int32) (hs : Int32) (p1 : Int32) (p2 : Int32) : Option (Nat × Int32 × bw_A2 × bw_A3 × Int32 × Int32) :=
  bw_b1 (fX5_isOutside p1 1 9) fun r4 =>
  if r4 = 0 then
    bw_b1 (fX5_isOutside p2 0 99) fun r14 =>
    if r14 = 0 then
      bw_b1 (fX0_projects (d 5 0)) fun r34 =>
      if r34 < 6 then
        bw_b3 (fX1_keep d sl hn hs) fun sl_60 hn_60 hs_60 =>
        bw_b3 (fX0_addProject (d 0) (d 5 0) p1 p2) fun r69 tp_69 np_69 =>
        bw_let (va_up (va_up d 0 tp_69) 5 (upd (d 5) 0 np_69)) fun d_69 =>
        some (0, r69, d_69, sl_60, hn_60, hs_60)
      else
        some (3, 0, d, sl, hn, hs)
    else
      some (2, 0, d, sl, hn, hs)
  else
    some (2, 0, d, sl, hn, hs)
def fX5_needProject (d : bw_A2) (p1 : Int32) : Option Nat :=
  bw_b1 (fX0_projects (d 5 0)) fun r6 =>
  bw_b1 (fX5_isOutside p1 0 (r6 - 1)) fun r11 =>
  if r11 = 0 then
    some 0
  else
    some 1
def fX5_plan (d : bw_A2) (sl : bw_A3) (hn : Int32) (hs : Int32) (p1 : Int32) (p2 : Int32) : Option (Nat × Int32 × bw_A2 × bw_A3 × Int32 × Int32) :=
  bw_b1 (fX5_needProject d p1) fun k2 => bw_thn k2 (some (k2, 0, d, sl, hn, hs)) <|
  bw_b1 (fX5_isOutside p2 1 60) fun r9 =>
  if r9 = 0 then
    bw_b1 (fX0_isOpen (d 0) p1) fun r30 =>
    if r30 = 0 then
      some (3, 0, d, sl, hn, hs)
    else
      bw_b1 (fX0_projectPart (d 0) (d 3) p1 7) fun r43 =>
      if r43 < 8 then
        bw_b3 (fX1_keep d sl hn hs) fun sl_69 hn_69 hs_69 =>
        bw_b3 (fX0_addTask (d 0) (d 1) p1 p2) fun r78 tp_78 tk_78 =>
        bw_let (va_up (va_up d 0 tp_78) 1 tk_78) fun d_78 =>
        some (0, r78, d_78, sl_69, hn_69, hs_69)
      else
        some (3, 0, d, sl, hn, hs)
  else
    some (2, 0, d, sl, hn, hs)
def fX5_rank (d : bw_A2) (sl : bw_A3) (hn : Int32) (hs : Int32) (p1 : Int32) (p2 : Int32) : Option (Nat × Int32 × bw_A2 × bw_A3 × Int32 × Int32) :=
  bw_b1 (fX5_needProject d p1) fun k2 => bw_thn k2 (some (k2, 0, d, sl, hn, hs)) <|
  bw_b1 (fX5_isOutside p2 1 9) fun r9 =>
  if r9 = 0 then
    bw_b3 (fX1_keep d sl hn hs) fun sl_33 hn_33 hs_33 =>
    bw_b2 (fX0_changeRank (d 0) p1 p2) fun r42 tp_42 =>
    bw_let (va_up d 0 tp_42) fun d_42 =>
    some (0, r42, d_42, sl_33, hn_33, hs_33)
  else
    some (2, 0, d, sl, hn, hs)
def fX5_needSetting (p0 : Int32) : Option Nat :=
  bw_b1 (fX5_isOutside p0 0 (3 - 1)) fun r8 =>
  if r8 = 0 then
    some 0
  else
    some 1
def jX5_greatestValue_20  : Option Int32 :=
  some 0
def fX5_greatestValue (p0 : Int32) : Option Int32 :=
  if p0 < 0 then
    jX5_greatestValue_20
  else
    if 3 ≤ p0 then
      jX5_greatestValue_20
    else
      bw_b1 (bw_rd 3 bw_gv p0) fun v16 =>
      some v16
def fX5_set (d : bw_A2) (sl : bw_A3) (hn : Int32) (hs : Int32) (p1 : Int32) (p2 : Int32) : Option (Nat × Int32 × bw_A2 × bw_A3 × Int32 × Int32) :=
  bw_b1 (fX5_needSetting p1) fun k1 => bw_thn k1 (some (k1, 0, d, sl, hn, hs)) <|
  bw_b1 (fX5_greatestValue p1) fun r7 =>
  bw_b1 (fX5_isOutside p2 0 r7) fun r10 =>
  if r10 = 0 then
    bw_b3 (fX1_keep d sl hn hs) fun sl_34 hn_34 hs_34 =>
    bw_b2 (fX0_changeSetting (d 3) p1 p2) fun r43 ts_43 =>
    bw_let (va_up d 3 ts_43) fun d_43 =>
    some (0, r43, d_43, sl_34, hn_34, hs_34)
  else
    some (2, 0, d, sl, hn, hs)
def fX5_needDaysTaken (p0 : Int32) : Option Nat :=
  bw_b1 (fX5_isOutside p0 0 300) fun r5 =>
  if r5 = 0 then
    some 0
  else
    some 2
def fX5_done (d : bw_A2) (sl : bw_A3) (hn : Int32) (hs : Int32) (p1 : Int32) (p2 : Int32) : Option (Nat × Int32 × bw_A2 × bw_A3 × Int32 × Int32) :=
  bw_b1 (fX5_needProject d p1) fun k2 => bw_thn k2 (some (k2, 0, d, sl, hn, hs)) <|
  bw_b1 (fX5_needDaysTaken p2) fun k6 => bw_thn k6 (some (k6, 0, d, sl, hn, hs)) <|
  bw_b1 (fX0_hasNextTask (d 0) p1) fun r14 =>
  if r14 = 0 then
    some (3, 0, d, sl, hn, hs)
  else
    bw_b3 (fX1_keep d sl hn hs) fun sl_38 hn_38 hs_38 =>
    bw_b6 (fX0_doNextTask (d 0) (d 1) (d 2) (d 3) (d 4) (d 5 0) (d 5 1) p1 p2) fun r47 tp_47 tk_47 tl_47 tq_47 nl_47 =>
    bw_let (va_up (va_up (va_up (va_up (va_up d 0 tp_47) 1 tk_47) 2 tl_47) 4 tq_47) 5 (upd (d 5) 1 nl_47)) fun d_47 =>
    some (0, r47, d_47, sl_38, hn_38, hs_38)
def fX5_lend (d : bw_A2) (sl : bw_A3) (hn : Int32) (hs : Int32) (p1 : Int32) (p2 : Int32) (p3 : Int32) : Option (Nat × Int32 × bw_A2 × bw_A3 × Int32 × Int32) :=
  bw_b1 (fX5_needProject d p1) fun k2 => bw_thn k2 (some (k2, 0, d, sl, hn, hs)) <|
  bw_b1 (fX5_needProject d p2) fun k7 => bw_thn k7 (some (k7, 0, d, sl, hn, hs)) <|
  if p1 = p2 then
    some (2, 0, d, sl, hn, hs)
  else
    bw_b1 (fX5_isOutside p3 1 99) fun r19 =>
    if r19 = 0 then
      bw_b1 (fX0_isOpen (d 0) p1) fun r40 =>
      if r40 = 0 then
        some (3, 0, d, sl, hn, hs)
      else
        bw_b1 (fX0_isOpen (d 0) p2) fun r51 =>
        if r51 = 0 then
          some (3, 0, d, sl, hn, hs)
        else
          bw_b1 (fX0_projectPart (d 0) (d 3) p1 2) fun r63 =>
          if p3 ≤ r63 then
            bw_b3 (fX1_keep d sl hn hs) fun sl_88 hn_88 hs_88 =>
            bw_b3 (fX0_lendDays (d 0) (d 2) (d 5 1) p1 p2 p3) fun tp_98 tl_98 nl_98 =>
            bw_let (va_up (va_up (va_up d 0 tp_98) 2 tl_98) 5 (upd (d 5) 1 nl_98)) fun d_98 =>
            bw_b1 (fX0_daysOwed (d_98 2) (d_98 5 1) p2 p1) fun r107 =>
            some (0, r107, d_98, sl_88, hn_88, hs_88)
          else
            some (3, 0, d, sl, hn, hs)
    else
      some (2, 0, d, sl, hn, hs)
def fX5_payBack (d : bw_A2) (sl : bw_A3) (hn : Int32) (hs : Int32) (p1 : Int32) (p2 : Int32) (p3 : Int32) : Option (Nat × Int32 × bw_A2 × bw_A3 × Int32 × Int32) :=
  bw_b1 (fX5_needProject d p1) fun k2 => bw_thn k2 (some (k2, 0, d, sl, hn, hs)) <|
  bw_b1 (fX5_needProject d p2) fun k7 => bw_thn k7 (some (k7, 0, d, sl, hn, hs)) <|
  if p2 = p1 then
    some (2, 0, d, sl, hn, hs)
  else
    bw_b1 (fX5_isOutside p3 1 9999) fun r20 =>
    if r20 = 0 then
      bw_b1 (fX0_daysOwed (d 2) (d 5 1) p1 p2) fun r42 =>
      if r42 < p3 then
        some (3, 0, d, sl, hn, hs)
      else
        bw_b1 (fX0_projectPart (d 0) (d 3) p1 2) fun r55 =>
        if p3 ≤ r55 then
          bw_b3 (fX1_keep d sl hn hs) fun sl_80 hn_80 hs_80 =>
          bw_b1 (fX0_placeOfLoan (d 2) (d 5 1) p2 p1) fun r93 =>
          bw_b3 (fX0_payLoan (d 0) (d 2) (d 5 1) r93 p3) fun tp_97 tl_97 nl_97 =>
          bw_let (va_up (va_up (va_up d 0 tp_97) 2 tl_97) 5 (upd (d 5) 1 nl_97)) fun d_97 =>
          bw_b1 (fX0_daysOwed (d_97 2) (d_97 5 1) p1 p2) fun r106 =>
          some (0, r106, d_97, sl_80, hn_80, hs_80)
        else
          some (3, 0, d, sl, hn, hs)
    else
      some (2, 0, d, sl, hn, hs)
def fX5_close (d : bw_A2) (sl : bw_A3) (hn : Int32) (hs : Int32) (p1 : Int32) : Option (Nat × Int32 × bw_A2 × bw_A3 × Int32 × Int32) :=
  bw_b1 (fX5_needProject d p1) fun k2 => bw_thn k2 (some (k2, 0, d, sl, hn, hs)) <|
  bw_b1 (fX0_isOpen (d 0) p1) fun r10 =>
  if r10 = 0 then
    some (3, 0, d, sl, hn, hs)
  else
    bw_b1 (fX0_hasNextTask (d 0) p1) fun r21 =>
    if r21 = 0 then
      bw_b3 (fX1_keep d sl hn hs) fun sl_45 hn_45 hs_45 =>
      bw_b4 (fX0_closeProject (d 0) (d 2) (d 5 1) p1) fun r53 tp_53 tl_53 nl_53 =>
      bw_let (va_up (va_up (va_up d 0 tp_53) 2 tl_53) 5 (upd (d 5) 1 nl_53)) fun d_53 =>
      some (0, r53, d_53, sl_45, hn_45, hs_45)
    else
      some (3, 0, d, sl, hn, hs)
def fX5_append (cs : bw_A1) (ln : Int32) (p1 : Int32) : Option (Nat × Int32 × bw_A1 × Int32) :=
  bw_b1 (fX5_isOutside p1 33 126) fun r5 =>
  if r5 = 0 then
    bw_b1 (fX4_length ln) fun r25 =>
    if r25 < 60 then
      bw_b2 (fX4_add cs ln p1) fun cs_48 ln_48 =>
      bw_b1 (fX4_length ln_48) fun r55 =>
      some (0, r55, cs_48, ln_48)
    else
      some (3, 0, cs, ln)
  else
    some (2, 0, cs, ln)
def fX5_openAll (d : bw_A2) (sl : bw_A3) (hn : Int32) (hs : Int32) (cs : bw_A1) (ln : Int32) (rp : Int32) (rn : Int32) (rt : Int32) : Option (Nat × Int32 × bw_A2 × bw_A3 × Int32 × Int32 × Int32 × Int32 × Int32 × Int32) :=
  bw_b4 (fX4_isWholePlan cs ln rp rn rt) fun r4 rp_4 rn_4 rt_4 =>
  if r4 = 0 then
    some (2, 0, d, sl, hn, hs, ln, rp_4, rn_4, rt_4)
  else
    bw_b1 (fX0_projects (d 5 0)) fun r24 =>
    bw_b1 (fX4_projectsInPlan cs ln) fun r31 =>
    if (r24 + r31) ≤ 6 then
      bw_b3 (fX1_keep d sl hn hs) fun sl_58 hn_58 hs_58 =>
      bw_b1 (fX5_openProjectsOfText d cs ln) fun d_62 =>
      bw_b1 (fX4_wipe ln) fun ln_69 =>
      bw_b1 (fX0_projects (d_62 5 0)) fun r76 =>
      some (0, r76, d_62, sl_58, hn_58, hs_58, ln_69, rp_4, rn_4, rt_4)
    else
      some (3, 0, d, sl, hn, hs, ln, rp_4, rn_4, rt_4)
def fX5_undo (d : bw_A2) (sl : bw_A3) (hn : Int32) (hs : Int32) : Option (Nat × Int32 × bw_A2 × Int32 × Int32) :=
  bw_b1 (fX1_size hs) fun r4 =>
  if r4 = 0 then
    some (3, 0, d, hn, hs)
  else
    bw_b3 (fX1_giveBack d sl hn hs) fun d_28 hn_28 hs_28 =>
    bw_b1 (fX1_size hs_28) fun r35 =>
    some (0, r35, d_28, hn_28, hs_28)
def fX5_project (d : bw_A2) (p1 : Int32) (p2 : Int32) : Option (Nat × Int32) :=
  bw_b1 (fX5_needProject d p1) fun k2 => bw_thn k2 (some (k2, 0)) <|
  bw_b1 (fX5_isOutside p2 0 14) fun r9 =>
  if r9 = 0 then
    bw_b1 (fX0_projectPart (d 0) (d 3) p1 p2) fun r31 =>
    some (0, r31)
  else
    some (2, 0)
def fX5_task (d : bw_A2) (p1 : Int32) (p2 : Int32) (p3 : Int32) : Option (Nat × Int32) :=
  bw_b1 (fX5_needProject d p1) fun k2 => bw_thn k2 (some (k2, 0)) <|
  bw_b1 (fX0_projectPart (d 0) (d 3) p1 7) fun r14 =>
  bw_b1 (fX5_isOutside p2 0 (r14 - 1)) fun r19 =>
  if r19 = 0 then
    bw_b1 (fX5_isOutside p3 0 5) fun r38 =>
    if r38 = 0 then
      bw_b1 (fX0_taskPart (d 1) p1 p2 p3) fun r61 =>
      some (0, r61)
    else
      some (2, 0)
  else
    some (1, 0)
def fX5_loan (d : bw_A2) (p1 : Int32) (p2 : Int32) : Option (Nat × Int32) :=
  bw_b1 (fX0_loans (d 5 1)) fun r6 =>
  bw_b1 (fX5_isOutside p1 0 (r6 - 1)) fun r11 =>
  if r11 = 0 then
    bw_b1 (fX5_isOutside p2 0 2) fun r30 =>
    if r30 = 0 then
      bw_b1 (fX0_loanPart (d 2) p1 p2) fun r52 =>
      some (0, r52)
    else
      some (2, 0)
  else
    some (1, 0)
def fX5_owed (d : bw_A2) (p1 : Int32) (p2 : Int32) : Option (Nat × Int32) :=
  bw_b1 (fX5_needProject d p1) fun k2 => bw_thn k2 (some (k2, 0)) <|
  bw_b1 (fX5_needProject d p2) fun k7 => bw_thn k7 (some (k7, 0)) <|
  bw_b1 (fX0_daysOwed (d 2) (d 5 1) p1 p2) fun r16 =>
  some (0, r16)
def fX5_lender (d : bw_A2) (p1 : Int32) (p2 : Int32) : Option (Nat × Int32 × bw_A2) :=
  bw_b1 (fX5_needProject d p1) fun k2 => bw_thn k2 (some (k2, 0, d)) <|
  bw_b1 (fX5_isOutside p2 0 4) fun r8 =>
  if r8 = 0 then
    bw_b2 (fX0_lenderAt (d 0) (d 3) (d 4) (d 5 0) p1 p2) fun r30 tq_30 =>
    bw_let (va_up d 4 tq_30) fun d_30 =>
    some (0, r30, d_30)
  else
    some (2, 0, d)
def fX5_numberOf (d : bw_A2) (hs : Int32) (p1 : Int32) : Option Int32 :=
  if p1 = 0 then
    bw_b1 (fX0_projects (d 5 0)) fun r56 =>
    some r56
  else
    if p1 = 1 then
      bw_b1 (fX0_sumOfProjects (d 0) (d 5 0) 9) fun r66 =>
      some r66
    else
      if p1 = 2 then
        bw_b1 (fX0_loans (d 5 1)) fun r74 =>
        some r74
      else
        if p1 = 3 then
          bw_b1 (fX0_sumOfProjects (d 0) (d 5 0) 4) fun r83 =>
          some r83
        else
          if p1 = 4 then
            bw_b1 (fX0_sumOfProjects (d 0) (d 5 0) 2) fun r92 =>
            some r92
          else
            if p1 = 5 then
              bw_b1 (fX0_sumOfProjects (d 0) (d 5 0) 6) fun r102 =>
              some r102
            else
              if p1 = 6 then
                bw_b1 (fX0_sumOfProjects (d 0) (d 5 0) 8) fun r112 =>
                some r112
              else
                if p1 = 7 then
                  bw_b1 (fX0_delayOfTasks (d 0) (d 1) (d 5 0)) fun r120 =>
                  some r120
                else
                  if p1 = 8 then
                    bw_b1 (fX0_sumOfProjects (d 0) (d 5 0) 10) fun r130 =>
                    some r130
                  else
                    bw_b1 (fX1_size hs) fun r138 =>
                    some r138
def fX5_count (d : bw_A2) (hs : Int32) (p1 : Int32) : Option (Nat × Int32) :=
  bw_b1 (fX5_isOutside p1 0 9) fun r4 =>
  if r4 = 0 then
    bw_b1 (fX5_numberOf d hs p1) fun r22 =>
    some (0, r22)
  else
    some (2, 0)
def fX5_setting (d : bw_A2) (p1 : Int32) : Option (Nat × Int32) :=
  bw_b1 (fX5_needSetting p1) fun k1 => bw_thn k1 (some (k1, 0)) <|
  bw_b1 (fX0_valueOf (d 3) p1) fun r9 =>
  some (0, r9)
def fX5_tryNextTask (d : bw_A2) (t : bw_A2) (p1 : Int32) (p2 : Int32) : Option (Int32 × bw_A2) :=
  bw_b1 (fX0_hasNextTask (d 0) p1) fun r5 =>
  if r5 = 0 then
    some (0, t)
  else
    bw_let (bw_cpD t d) fun t_21 =>
    bw_b6 (fX0_doNextTask (t_21 0) (t_21 1) (t_21 2) (t_21 3) (t_21 4) (t_21 5 0) (t_21 5 1) p1 p2) fun r30 tp_30 tk_30 tl_30 tq_30 nl_30 =>
    bw_let (va_up (va_up (va_up (va_up (va_up t_21 0 tp_30) 1 tk_30) 2 tl_30) 4 tq_30) 5 (upd (t_21 5) 1 nl_30)) fun t_30 =>
    some (1, t_30)
def fX5_ifDone (d : bw_A2) (t : bw_A2) (p1 : Int32) (p2 : Int32) (p3 : Int32) : Option (Nat × Int32 × bw_A2) :=
  bw_b1 (fX5_needProject d p1) fun k2 => bw_thn k2 (some (k2, 0, t)) <|
  bw_b1 (fX5_needDaysTaken p2) fun k6 => bw_thn k6 (some (k6, 0, t)) <|
  bw_b1 (fX5_isOutside p3 0 4) fun r12 =>
  if r12 = 0 then
    bw_b2 (fX5_tryNextTask d t p1 p2) fun r31 t_31 =>
    if r31 = 0 then
      some (0, (-1), t_31)
    else
      bw_b1 (fX5_resultOfTrial t_31 p1 p3) fun r40 =>
      some (0, r40, t_31)
  else
    some (2, 0, t)
def fX5_bears (d : bw_A2) (p1 : Int32) : Option (Nat × Int32) :=
  bw_b1 (fX5_needProject d p1) fun k2 => bw_thn k2 (some (k2, 0)) <|
  bw_b1 (fX0_bearableDelay (d 0) (d 2) (d 3) (d 5 0) (d 5 1) p1) fun r10 =>
  some (0, r10)
def jX5_bestRuleFor_85 (k21 : bw_A2 → Int32 → Int32 → Int32 → Option (Int32 × bw_A2)) (d : bw_A2) (t : bw_A2) (x1 : Int32) (x2 : Int32) (x3 : Int32) (x4 : Int32) (x5 : Int32) : Option (Int32 × bw_A2) :=
  bw_let (x5 + 1 : Int32) fun x5_85 =>
  k21 t x3 x4 x5_85
def bX5_bestRuleFor_21 (k21 : bw_A2 → Int32 → Int32 → Int32 → Option (Int32 × bw_A2)) (d : bw_A2) (x1 : Int32) (x2 : Int32) (t : bw_A2) (x3 : Int32) (x4 : Int32) (x5 : Int32) : Option (Int32 × bw_A2) :=
  bw_b1 (fX5_greatestValue 0) fun r24 =>
  if r24 < x5 then
    some (x3, t)
  else
    bw_let (bw_cpD t d) fun t_38 =>
    bw_b2 (fX0_changeSetting (t_38 3) 0 x5) fun r48 ts_48 =>
    bw_let (va_up t_38 3 ts_48) fun t_48 =>
    bw_b6 (fX0_doNextTask (t_48 0) (t_48 1) (t_48 2) (t_48 3) (t_48 4) (t_48 5 0) (t_48 5 1) x1 x2) fun r58 tp_58 tk_58 tl_58 tq_58 nl_58 =>
    bw_let (va_up (va_up (va_up (va_up (va_up t_48 0 tp_58) 1 tk_58) 2 tl_58) 4 tq_58) 5 (upd (t_48 5) 1 nl_58)) fun t_58 =>
    bw_b1 (fX0_leastDaysLeft (t_58 0) (t_58 5 0)) fun r66 =>
    if r66 ≤ x4 then
      jX5_bestRuleFor_85 k21 d t_58 x1 x2 x3 x4 x5
    else
      jX5_bestRuleFor_85 k21 d t_58 x1 x2 x5 r66 x5
def lX5_bestRuleFor_21 (d : bw_A2) (x1 : Int32) (x2 : Int32) : Nat → bw_A2 → Int32 → Int32 → Int32 → Option (Int32 × bw_A2)
  | 0 => fun _ _ _ _ => none
  | n + 1 => bX5_bestRuleFor_21  (lX5_bestRuleFor_21 d x1 x2 n) d x1 x2
def fX5_bestRuleFor (d : bw_A2) (t : bw_A2) (p1 : Int32) (p2 : Int32) : Option (Int32 × bw_A2) :=
  bw_b1 (fX0_hasNextTask (d 0) p1) fun r5 =>
  if r5 = 0 then
    some ((-1), t)
  else
    lX5_bestRuleFor_21 d p1 p2 bw_fu t (-1) (-1) 0
def fX5_bestRule (d : bw_A2) (t : bw_A2) (p1 : Int32) (p2 : Int32) : Option (Nat × Int32 × bw_A2) :=
  bw_b1 (fX5_needProject d p1) fun k2 => bw_thn k2 (some (k2, 0, t)) <|
  bw_b1 (fX5_needDaysTaken p2) fun k6 => bw_thn k6 (some (k6, 0, t)) <|
  bw_b2 (fX5_bestRuleFor d t p1 p2) fun r12 t_12 =>
  some (0, r12, t_12)
def bX5_mixWhatWouldBe_83 (k83 : Int64 → Int32 → Option (Int64 × bw_A2)) (d : bw_A2) (t : bw_A2) (x3 : Int32) (x4 : Int64) (x7 : Int32) : Option (Int64 × bw_A2) :=
  bw_b1 (fX0_projects (d 5 0)) fun r89 =>
  if r89 ≤ x7 then
    some (x4, t)
  else
    bw_b1 (fX0_daysOwed (d 2) (d 5 1) x3 x7) fun r104 =>
    bw_b1 (fX5_mix x4 (Int32.toInt64 r104)) fun r108 =>
    bw_let (x7 + 1 : Int32) fun x7_113 =>
    k83 r108 x7_113
def lX5_mixWhatWouldBe_83 (d : bw_A2) (t : bw_A2) (x3 : Int32) : Nat → Int64 → Int32 → Option (Int64 × bw_A2)
  | 0 => fun _ _ => none
  | n + 1 => bX5_mixWhatWouldBe_83  (lX5_mixWhatWouldBe_83 d t x3 n) d t x3
def jX5_mixWhatWouldBe_54 (k27 : Int64 → Int32 → Option (Int64 × bw_A2)) (d : bw_A2) (t : bw_A2) (x3 : Int32) (x6 : Int32) (x7 : Int32) (s0 : Int64) (s1 : Int64) : Option (Int64 × bw_A2) :=
  bw_b1 (fX5_mix s1 s0) fun r54 =>
  bw_let (x7 + 1 : Int32) fun x7_59 =>
  k27 r54 x7_59
def bX5_mixWhatWouldBe_27 (k27 : Int64 → Int32 → Option (Int64 × bw_A2)) (d : bw_A2) (t : bw_A2) (x3 : Int32) (x6 : Int32) (x4 : Int64) (x7 : Int32) : Option (Int64 × bw_A2) :=
  if 4 < x7 then
    bw_b2 (fX5_bestRuleFor d t x3 60) fun r71 t_71 =>
    bw_b1 (fX5_mix x4 (Int32.toInt64 r71)) fun r75 =>
    lX5_mixWhatWouldBe_83 d t_71 x3 bw_fu r75 0
  else
    if x6 = 0 then
      jX5_mixWhatWouldBe_54 k27 d t x3 x6 x7 (-1) x4
    else
      bw_b1 (fX5_resultOfTrial t x3 x7) fun r44 =>
      jX5_mixWhatWouldBe_54 k27 d t x3 x6 x7 (Int32.toInt64 r44) x4
def lX5_mixWhatWouldBe_27 (d : bw_A2) (t : bw_A2) (x3 : Int32) (x6 : Int32) : Nat → Int64 → Int32 → Option (Int64 × bw_A2)
  | 0 => fun _ _ => none
  | n + 1 => bX5_mixWhatWouldBe_27  (lX5_mixWhatWouldBe_27 d t x3 x6 n) d t x3 x6
def fX5_mixWhatWouldBe (d : bw_A2) (t : bw_A2) (p1 : Int64) (p3 : Int32) : Option (Int64 × bw_A2) :=
  bw_b1 (fX0_bearableDelay (d 0) (d 2) (d 3) (d 5 0) (d 5 1) p3) fun r6 =>
  bw_b1 (fX5_mix p1 (Int32.toInt64 r6)) fun r10 =>
  bw_b2 (fX5_tryNextTask d t p3 60) fun r19 t_19 =>
  lX5_mixWhatWouldBe_27 d t_19 p3 r19 bw_fu r10 0
def bX5_digest_182 (k182 : Int64 → Int32 → Option (Int64 × bw_A2 × bw_A2)) (d : bw_A2) (t : bw_A2) (hs : Int32) (cs : bw_A1) (ln : Int32) (x1 : Int64) (x3 : Int32) : Option (Int64 × bw_A2 × bw_A2) :=
  bw_b1 (fX4_length ln) fun r187 =>
  if r187 ≤ x3 then
    some (x1, d, t)
  else
    bw_b1 (fX4_codeAt cs x3) fun r199 =>
    bw_b1 (fX5_mix x1 (Int32.toInt64 r199)) fun r203 =>
    bw_let (x3 + 1 : Int32) fun x3_207 =>
    k182 r203 x3_207
def lX5_digest_182 (d : bw_A2) (t : bw_A2) (hs : Int32) (cs : bw_A1) (ln : Int32) : Nat → Int64 → Int32 → Option (Int64 × bw_A2 × bw_A2)
  | 0 => fun _ _ => none
  | n + 1 => bX5_digest_182  (lX5_digest_182 d t hs cs ln n) d t hs cs ln
def bX5_digest_108 (k94 : Int64 → Int32 → Option (Int64 × bw_A2 × bw_A2)) (k108 : Int64 → Int32 → Option (Int64 × bw_A2 × bw_A2)) (d : bw_A2) (t : bw_A2) (hs : Int32) (cs : bw_A1) (ln : Int32) (x3 : Int32) (x1 : Int64) (x4 : Int32) : Option (Int64 × bw_A2 × bw_A2) :=
  if 2 < x4 then
    bw_let (x3 + 1 : Int32) fun x3_136 =>
    k94 x1 x3_136
  else
    bw_b1 (fX0_loanPart (d 2) x3 x4) fun r122 =>
    bw_b1 (fX5_mix x1 (Int32.toInt64 r122)) fun r126 =>
    bw_let (x4 + 1 : Int32) fun x4_130 =>
    k108 r126 x4_130
def lX5_digest_108 (k94 : Int64 → Int32 → Option (Int64 × bw_A2 × bw_A2)) (d : bw_A2) (t : bw_A2) (hs : Int32) (cs : bw_A1) (ln : Int32) (x3 : Int32) : Nat → Int64 → Int32 → Option (Int64 × bw_A2 × bw_A2)
  | 0 => fun _ _ => none
  | n + 1 => bX5_digest_108 k94 (lX5_digest_108 k94 d t hs cs ln x3 n) d t hs cs ln x3
def bX5_digest_94 (k94 : Int64 → Int32 → Option (Int64 × bw_A2 × bw_A2)) (d : bw_A2) (t : bw_A2) (hs : Int32) (cs : bw_A1) (ln : Int32) (x1 : Int64) (x3 : Int32) : Option (Int64 × bw_A2 × bw_A2) :=
  bw_b1 (fX0_loans (d 5 1)) fun r99 =>
  if r99 ≤ x3 then
    bw_b1 (fX0_weakestProject (d 0) (d 2) (d 3) (d 5 0) (d 5 1)) fun r147 =>
    bw_b1 (fX5_mix x1 (Int32.toInt64 r147)) fun r151 =>
    bw_b1 (fX5_lateShare d) fun r157 =>
    bw_b1 (fX5_bitsOfShare r157) fun r160 =>
    bw_b1 (fX5_mix r151 r160) fun r163 =>
    bw_b1 (fX4_length ln) fun r172 =>
    bw_b1 (fX5_mix r163 (Int32.toInt64 r172)) fun r176 =>
    lX5_digest_182 d t hs cs ln bw_fu r176 0
  else
    lX5_digest_108 k94 d t hs cs ln x3 bw_fu x1 0
def lX5_digest_94 (d : bw_A2) (t : bw_A2) (hs : Int32) (cs : bw_A1) (ln : Int32) : Nat → Int64 → Int32 → Option (Int64 × bw_A2 × bw_A2)
  | 0 => fun _ _ => none
  | n + 1 => bX5_digest_94  (lX5_digest_94 d t hs cs ln n) d t hs cs ln
def bX5_digest_61 (k61 : bw_A2 → bw_A2 → Int64 → Int32 → Option (Int64 × bw_A2 × bw_A2)) (hs : Int32) (cs : bw_A1) (ln : Int32) (d : bw_A2) (t : bw_A2) (x1 : Int64) (x3 : Int32) : Option (Int64 × bw_A2 × bw_A2) :=
  bw_b1 (fX0_projects (d 5 0)) fun r66 =>
  if r66 ≤ x3 then
    lX5_digest_94 d t hs cs ln bw_fu x1 0
  else
    bw_b2 (fX5_mixWhatIs d x1 x3) fun r75 d_75 =>
    bw_b2 (fX5_mixWhatWouldBe d_75 t r75 x3) fun r82 t_82 =>
    bw_let (x3 + 1 : Int32) fun x3_86 =>
    k61 d_75 t_82 r82 x3_86
def lX5_digest_61 (hs : Int32) (cs : bw_A1) (ln : Int32) : Nat → bw_A2 → bw_A2 → Int64 → Int32 → Option (Int64 × bw_A2 × bw_A2)
  | 0 => fun _ _ _ _ => none
  | n + 1 => bX5_digest_61  (lX5_digest_61 hs cs ln n) hs cs ln
def bX5_digest_31 (k31 : Int64 → Int32 → Option (Int64 × bw_A2 × bw_A2)) (d : bw_A2) (t : bw_A2) (hs : Int32) (cs : bw_A1) (ln : Int32) (x1 : Int64) (x3 : Int32) : Option (Int64 × bw_A2 × bw_A2) :=
  if 3 ≤ x3 then
    lX5_digest_61 hs cs ln bw_fu d t x1 0
  else
    bw_b1 (fX0_valueOf (d 3) x3) fun r45 =>
    bw_b1 (fX5_mix x1 (Int32.toInt64 r45)) fun r49 =>
    bw_let (x3 + 1 : Int32) fun x3_53 =>
    k31 r49 x3_53
def lX5_digest_31 (d : bw_A2) (t : bw_A2) (hs : Int32) (cs : bw_A1) (ln : Int32) : Nat → Int64 → Int32 → Option (Int64 × bw_A2 × bw_A2)
  | 0 => fun _ _ => none
  | n + 1 => bX5_digest_31  (lX5_digest_31 d t hs cs ln n) d t hs cs ln
def bX5_digest_6 (k6 : Int64 → Int32 → Option (Int64 × bw_A2 × bw_A2)) (d : bw_A2) (t : bw_A2) (hs : Int32) (cs : bw_A1) (ln : Int32) (x1 : Int64) (x3 : Int32) : Option (Int64 × bw_A2 × bw_A2) :=
  if 9 < x3 then
    lX5_digest_31 d t hs cs ln bw_fu x1 0
  else
    bw_b1 (fX5_numberOf d hs x3) fun r15 =>
    bw_b1 (fX5_mix x1 (Int32.toInt64 r15)) fun r19 =>
    bw_let (x3 + 1 : Int32) fun x3_23 =>
    k6 r19 x3_23
def lX5_digest_6 (d : bw_A2) (t : bw_A2) (hs : Int32) (cs : bw_A1) (ln : Int32) : Nat → Int64 → Int32 → Option (Int64 × bw_A2 × bw_A2)
  | 0 => fun _ _ => none
  | n + 1 => bX5_digest_6  (lX5_digest_6 d t hs cs ln n) d t hs cs ln
def fX5_digest (d : bw_A2) (t : bw_A2) (hs : Int32) (cs : bw_A1) (ln : Int32) : Option (Int64 × bw_A2 × bw_A2) :=
  lX5_digest_6 d t hs cs ln bw_fu 2473 0
