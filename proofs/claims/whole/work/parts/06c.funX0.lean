def fX0_projects (np : Int32) : Option Int32 :=
  some np
def fX0_addProject (tp : bw_A1) (np : Int32) (p1 : Int32) (p2 : Int32) : Option (Int32 × bw_A1 × Int32) :=
  bw_let ((np + 1) : Int32) fun np_12 =>
  bw_b1 (fX3_put 84 14 tp np 0 p1) fun tp_22 =>
  bw_b1 (fX3_put 84 14 tp_22 np 1 p2) fun tp_32 =>
  bw_b1 (fX3_put 84 14 tp_32 np 2 p2) fun tp_42 =>
  bw_b1 (fX3_put 84 14 tp_42 np 9 1) fun tp_53 =>
  some (np, tp_53, np_12)
def fX0_isOpen (tp : bw_A1) (p1 : Int32) : Option Int32 :=
  bw_b1 (fX3_get 84 14 tp p1 9) fun r7 =>
  if r7 = 1 then
    some 1
  else
    some 0
def fX0_lendableDays (tp : bw_A1) (ts : bw_A1) (p1 : Int32) (p2 : Int32) : Option Int32 :=
  bw_b1 (fX3_get 84 14 tp p1 1) fun r6 =>
  bw_b1 (fX3_get 3 3 ts 0 1) fun r15 =>
  bw_let (((r6 * r15) / 100) : Int32) fun x3_22 =>
  bw_b1 (fX3_get 84 14 tp p1 2) fun r30 =>
  some (bw_max 0 ((r30 - p2) - x3_22))
def fX0_projectPart (tp : bw_A1) (ts : bw_A1) (p1 : Int32) (p2 : Int32) : Option Int32 :=
  if p2 = 14 then
    bw_b1 (fX0_isOpen tp p1) fun r18 =>
    if r18 = 0 then
      some 0
    else
      bw_b1 (fX0_lendableDays tp ts p1 0) fun r27 =>
      some r27
  else
    bw_b1 (fX3_get 84 14 tp p1 p2) fun r12 =>
    some r12
def fX0_rowOfTask (p0 : Int32) (p1 : Int32) : Option Int32 :=
  some ((p0 * 8) + p1)
def fX0_addTask (tp : bw_A1) (tk : bw_A1) (p1 : Int32) (p2 : Int32) : Option (Int32 × bw_A1 × bw_A1) :=
  bw_b1 (fX3_get 84 14 tp p1 7) fun r7 =>
  bw_b1 (fX0_rowOfTask p1 r7) fun r13 =>
  bw_b1 (fX3_put 288 6 tk r13 0 p2) fun tk_26 =>
  bw_b1 (fX3_put 288 6 tk_26 r13 1 (-1)) fun tk_37 =>
  bw_b1 (fX3_increase 84 14 tp p1 7 1) fun tp_48 =>
  bw_b1 (fX3_increase 84 14 tp_48 p1 12 p2) fun tp_59 =>
  some (r7, tp_59, tk_37)
def fX0_changeRank (tp : bw_A1) (p1 : Int32) (p2 : Int32) : Option (Int32 × bw_A1) :=
  bw_b1 (fX3_get 84 14 tp p1 0) fun r6 =>
  bw_b1 (fX3_put 84 14 tp p1 0 p2) fun tp_17 =>
  some (r6, tp_17)
def fX0_changeSetting (ts : bw_A1) (p1 : Int32) (p2 : Int32) : Option (Int32 × bw_A1) :=
  bw_b1 (fX3_get 3 3 ts 0 p1) fun r6 =>
  bw_b1 (fX3_put 3 3 ts 0 p1 p2) fun ts_17 =>
  some (r6, ts_17)
def jX0_hasNextTask_35 (tp : bw_A1) : Option Int32 :=
  some 0
def fX0_hasNextTask (tp : bw_A1) (p1 : Int32) : Option Int32 :=
  bw_b1 (fX0_isOpen tp p1) fun r2 =>
  if r2 = 0 then
    jX0_hasNextTask_35 tp
  else
    bw_b1 (fX3_get 84 14 tp p1 8) fun r15 =>
    bw_b1 (fX3_get 84 14 tp p1 7) fun r25 =>
    if r25 ≤ r15 then
      jX0_hasNextTask_35 tp
    else
      some 1
def fX0_useDays (tp : bw_A1) (p1 : Int32) (p2 : Int32) : Option bw_A1 :=
  bw_b1 (fX3_increase 84 14 tp p1 2 (-p2)) fun tp_8 =>
  bw_b1 (fX3_increase 84 14 tp_8 p1 3 p2) fun tp_18 =>
  some tp_18
def fX0_changeLoan (tp : bw_A1) (tl : bw_A1) (nl : Int32) (p1 : Int32) (p2 : Int32) : Option (bw_A1 × bw_A1 × Int32) :=
  bw_b1 (fX3_increase 90 3 tl p1 2 p2) fun tl_7 =>
  bw_b1 (fX3_get 90 3 tl_7 p1 0) fun r20 =>
  bw_b1 (fX3_increase 84 14 tp r20 5 p2) fun tp_25 =>
  bw_b1 (fX3_get 90 3 tl_7 p1 1) fun r38 =>
  bw_b1 (fX3_increase 84 14 tp_25 r38 4 p2) fun tp_43 =>
  bw_b1 (fX3_get 90 3 tl_7 p1 2) fun r52 =>
  if r52 = 0 then
    bw_b1 (fX3_removeRow 90 3 tl_7 p1) fun tl_63 =>
    bw_let ((nl - 1) : Int32) fun nl_73 =>
    some (tp_43, tl_63, nl_73)
  else
    some (tp_43, tl_7, nl)
def fX0_moveDays (tp : bw_A1) (p1 : Int32) (p2 : Int32) (p3 : Int32) : Option bw_A1 :=
  bw_b1 (fX3_increase 84 14 tp p1 2 (-p3)) fun tp_8 =>
  bw_b1 (fX3_increase 84 14 tp_8 p2 2 p3) fun tp_18 =>
  some tp_18
def fX0_payLoan (tp : bw_A1) (tl : bw_A1) (nl : Int32) (p1 : Int32) (p2 : Int32) : Option (bw_A1 × bw_A1 × Int32) :=
  bw_b1 (fX3_get 90 3 tl p1 0) fun r6 =>
  bw_b1 (fX3_get 90 3 tl p1 1) fun r16 =>
  bw_b3 (fX0_changeLoan tp tl nl p1 (-p2)) fun tp_25 tl_25 nl_25 =>
  bw_b1 (fX0_moveDays tp_25 r16 r6 p2) fun tp_33 =>
  some (tp_33, tl_25, nl_25)
def jX0_repay_80 (k11 : bw_A1 → bw_A1 → Int32 → Int32 → Int32 → Int32 → Option (bw_A1 × bw_A1 × Int32)) (tp : bw_A1) (tl : bw_A1) (nl : Int32) (x1 : Int32) (x3 : Int32) (x4 : Int32) (x5 : Int32) : Option (bw_A1 × bw_A1 × Int32) :=
  bw_let (x5 + (-1) : Int32) fun x5_80 =>
  k11 tp tl nl x3 x4 x5_80
def jX0_repay_70 (k11 : bw_A1 → bw_A1 → Int32 → Int32 → Int32 → Int32 → Option (bw_A1 × bw_A1 × Int32)) (tp : bw_A1) (tl : bw_A1) (nl : Int32) (x1 : Int32) (x3 : Int32) (x4 : Int32) (x5 : Int32) (x6 : Int32) (x7 : Int32) : Option (bw_A1 × bw_A1 × Int32) :=
  if x6 ≤ x7 then
    jX0_repay_80 k11 tp tl nl x1 x3 x4 x5
  else
    bw_let (x4 + 1 : Int32) fun x4_77 =>
    jX0_repay_80 k11 tp tl nl x1 x3 x4_77 x5
def bX0_repay_11 (k11 : bw_A1 → bw_A1 → Int32 → Int32 → Int32 → Int32 → Option (bw_A1 × bw_A1 × Int32)) (x1 : Int32) (tp : bw_A1) (tl : bw_A1) (nl : Int32) (x3 : Int32) (x4 : Int32) (x5 : Int32) : Option (bw_A1 × bw_A1 × Int32) :=
  if x5 ≤ 0 then
    some (tp, tl, nl)
  else
    if x3 ≤ 0 then
      some (tp, tl, nl)
    else
      bw_b1 (fX3_get 90 3 tl x4 2) fun r27 =>
      bw_b1 (fX3_get 90 3 tl x4 1) fun r42 =>
      if r42 = x1 then
        bw_let ((bw_min x3 r27) : Int32) fun x7_55 =>
        bw_b3 (fX0_payLoan tp tl nl x4 x7_55) fun tp_62 tl_62 nl_62 =>
        bw_let ((x3 - x7_55) : Int32) fun x3_69 =>
        jX0_repay_70 k11 tp_62 tl_62 nl_62 x1 x3_69 x4 x5 r27 x7_55
      else
        jX0_repay_70 k11 tp tl nl x1 x3 x4 x5 r27 0
def lX0_repay_11 (x1 : Int32) : Nat → bw_A1 → bw_A1 → Int32 → Int32 → Int32 → Int32 → Option (bw_A1 × bw_A1 × Int32)
  | 0 => fun _ _ _ _ _ _ => none
  | n + 1 => bX0_repay_11  (lX0_repay_11 x1 n) x1
def fX0_repay (tp : bw_A1) (tl : bw_A1) (nl : Int32) (p1 : Int32) (p2 : Int32) : Option (bw_A1 × bw_A1 × Int32) :=
  lX0_repay_11 p1 bw_fu tp tl nl p2 0 nl
def jX0_callBack_115 (k11 : bw_A1 → bw_A1 → Int32 → Int32 → Int32 → Int32 → Option (Int32 × bw_A1 × bw_A1 × Int32)) (tp : bw_A1) (tl : bw_A1) (nl : Int32) (x1 : Int32) (x2 : Int32) (x3 : Int32) (x4 : Int32) (x5 : Int32) : Option (Int32 × bw_A1 × bw_A1 × Int32) :=
  bw_let (x5 + (-1) : Int32) fun x5_115 =>
  k11 tp tl nl x3 x4 x5_115
def jX0_callBack_105 (k11 : bw_A1 → bw_A1 → Int32 → Int32 → Int32 → Int32 → Option (Int32 × bw_A1 × bw_A1 × Int32)) (tp : bw_A1) (tl : bw_A1) (nl : Int32) (x1 : Int32) (x2 : Int32) (x3 : Int32) (x4 : Int32) (x5 : Int32) (x6 : Int32) (x7 : Int32) : Option (Int32 × bw_A1 × bw_A1 × Int32) :=
  if x6 ≤ x7 then
    jX0_callBack_115 k11 tp tl nl x1 x2 x3 x4 x5
  else
    bw_let (x4 + 1 : Int32) fun x4_112 =>
    jX0_callBack_115 k11 tp tl nl x1 x2 x3 x4_112 x5
def bX0_callBack_11 (k11 : bw_A1 → bw_A1 → Int32 → Int32 → Int32 → Int32 → Option (Int32 × bw_A1 × bw_A1 × Int32)) (x1 : Int32) (x2 : Int32) (tp : bw_A1) (tl : bw_A1) (nl : Int32) (x3 : Int32) (x4 : Int32) (x5 : Int32) : Option (Int32 × bw_A1 × bw_A1 × Int32) :=
  if x5 ≤ 0 then
    some (x3, tp, tl, nl)
  else
    if x2 ≤ x3 then
      some (x3, tp, tl, nl)
    else
      bw_b1 (fX3_get 90 3 tl x4 2) fun r28 =>
      bw_b1 (fX3_get 90 3 tl x4 0) fun r43 =>
      if r43 = x1 then
        bw_b1 (fX3_get 90 3 tl x4 1) fun r61 =>
        bw_b1 (fX3_get 84 14 tp r61 2) fun r65 =>
        bw_let ((bw_min (x2 - x3) (bw_min r65 r28)) : Int32) fun x7_83 =>
        bw_b3 (fX0_payLoan tp tl nl x4 x7_83) fun tp_90 tl_90 nl_90 =>
        bw_b1 (fX0_useDays tp_90 x1 x7_83) fun tp_97 =>
        bw_let ((x3 + x7_83) : Int32) fun x3_104 =>
        jX0_callBack_105 k11 tp_97 tl_90 nl_90 x1 x2 x3_104 x4 x5 r28 x7_83
      else
        jX0_callBack_105 k11 tp tl nl x1 x2 x3 x4 x5 r28 0
def lX0_callBack_11 (x1 : Int32) (x2 : Int32) : Nat → bw_A1 → bw_A1 → Int32 → Int32 → Int32 → Int32 → Option (Int32 × bw_A1 × bw_A1 × Int32)
  | 0 => fun _ _ _ _ _ _ => none
  | n + 1 => bX0_callBack_11  (lX0_callBack_11 x1 x2 n) x1 x2
def fX0_callBack (tp : bw_A1) (tl : bw_A1) (nl : Int32) (p1 : Int32) (p2 : Int32) : Option (Int32 × bw_A1 × bw_A1 × Int32) :=
  lX0_callBack_11 p1 p2 bw_fu tp tl nl 0 0 nl
def fX0_weightOfLender (tp : bw_A1) (ts : bw_A1) (p1 : Int32) (p2 : Int32) : Option Int32 :=
  bw_b1 (fX3_get 3 3 ts 0 0) fun r6 =>
  if r6 = 0 then
    bw_b1 (fX3_get 84 14 tp p1 0) fun r42 =>
    some r42
  else
    if r6 = 1 then
      some p2
    else
      bw_b1 (fX3_get 84 14 tp p1 5) fun r54 =>
      some (-r54)
def jX0_queueLenders_129 (k4 : bw_A1 → Int32 → Int32 → Option (Int32 × bw_A1)) (tp : bw_A1) (ts : bw_A1) (tq : bw_A1) (np : Int32) (x1 : Int32) (x2 : Int32) (x3 : Int32) : Option (Int32 × bw_A1) :=
  bw_let (x3 + 1 : Int32) fun x3_129 =>
  k4 tq x2 x3_129
def jX0_queueLenders_82 (k4 : bw_A1 → Int32 → Int32 → Option (Int32 × bw_A1)) (tp : bw_A1) (ts : bw_A1) (tq : bw_A1) (np : Int32) (x1 : Int32) (x2 : Int32) (x3 : Int32) (x4 : Int32) (x5 : Int32) (x6 : Int32) : Option (Int32 × bw_A1) :=
  bw_b1 (fX3_insertRow 18 3 tq x6) fun tq_88 =>
  bw_b1 (fX3_put 18 3 tq_88 x6 0 x3) fun tq_99 =>
  bw_b1 (fX3_put 18 3 tq_99 x6 1 x4) fun tq_111 =>
  bw_b1 (fX3_put 18 3 tq_111 x6 2 x5) fun tq_123 =>
  bw_let (x2 + 1 : Int32) fun x2_126 =>
  jX0_queueLenders_129 k4 tp ts tq_123 np x1 x2_126 x3
def bX0_queueLenders_54 (k4 : bw_A1 → Int32 → Int32 → Option (Int32 × bw_A1)) (k54 : Int32 → Option (Int32 × bw_A1)) (tp : bw_A1) (ts : bw_A1) (tq : bw_A1) (np : Int32) (x1 : Int32) (x2 : Int32) (x3 : Int32) (x4 : Int32) (x5 : Int32) (x6 : Int32) : Option (Int32 × bw_A1) :=
  if x6 ≤ 0 then
    jX0_queueLenders_82 k4 tp ts tq np x1 x2 x3 x4 x5 x6
  else
    bw_b1 (fX3_get 18 3 tq (x6 - 1) 2) fun r68 =>
    if x5 ≤ r68 then
      jX0_queueLenders_82 k4 tp ts tq np x1 x2 x3 x4 x5 x6
    else
      bw_let (x6 + (-1) : Int32) fun x6_76 =>
      k54 x6_76
def lX0_queueLenders_54 (k4 : bw_A1 → Int32 → Int32 → Option (Int32 × bw_A1)) (tp : bw_A1) (ts : bw_A1) (tq : bw_A1) (np : Int32) (x1 : Int32) (x2 : Int32) (x3 : Int32) (x4 : Int32) (x5 : Int32) : Nat → Int32 → Option (Int32 × bw_A1)
  | 0 => fun _ => none
  | n + 1 => bX0_queueLenders_54 k4 (lX0_queueLenders_54 k4 tp ts tq np x1 x2 x3 x4 x5 n) tp ts tq np x1 x2 x3 x4 x5
def jX0_queueLenders_35 (k4 : bw_A1 → Int32 → Int32 → Option (Int32 × bw_A1)) (tp : bw_A1) (ts : bw_A1) (tq : bw_A1) (np : Int32) (x1 : Int32) (x2 : Int32) (x3 : Int32) (s0 : Int32) : Option (Int32 × bw_A1) :=
  if s0 ≤ 0 then
    jX0_queueLenders_129 k4 tp ts tq np x1 x2 x3
  else
    bw_b1 (fX0_weightOfLender tp ts x3 s0) fun r46 =>
    lX0_queueLenders_54 k4 tp ts tq np x1 x2 x3 s0 r46 bw_fu x2
def jX0_queueLenders_34 (k4 : bw_A1 → Int32 → Int32 → Option (Int32 × bw_A1)) (tp : bw_A1) (ts : bw_A1) (tq : bw_A1) (np : Int32) (x1 : Int32) (x2 : Int32) (x3 : Int32) : Option (Int32 × bw_A1) :=
  jX0_queueLenders_35 k4 tp ts tq np x1 x2 x3 0
def bX0_queueLenders_4 (k4 : bw_A1 → Int32 → Int32 → Option (Int32 × bw_A1)) (tp : bw_A1) (ts : bw_A1) (np : Int32) (x1 : Int32) (tq : bw_A1) (x2 : Int32) (x3 : Int32) : Option (Int32 × bw_A1) :=
  if np ≤ x3 then
    some (x2, tq)
  else
    if x3 = x1 then
      jX0_queueLenders_34 k4 tp ts tq np x1 x2 x3
    else
      bw_b1 (fX0_isOpen tp x3) fun r19 =>
      if r19 = 0 then
        jX0_queueLenders_34 k4 tp ts tq np x1 x2 x3
      else
        bw_b1 (fX0_lendableDays tp ts x3 0) fun r28 =>
        jX0_queueLenders_35 k4 tp ts tq np x1 x2 x3 r28
def lX0_queueLenders_4 (tp : bw_A1) (ts : bw_A1) (np : Int32) (x1 : Int32) : Nat → bw_A1 → Int32 → Int32 → Option (Int32 × bw_A1)
  | 0 => fun _ _ _ => none
  | n + 1 => bX0_queueLenders_4  (lX0_queueLenders_4 tp ts np x1 n) tp ts np x1
def fX0_queueLenders (tp : bw_A1) (ts : bw_A1) (tq : bw_A1) (np : Int32) (p1 : Int32) : Option (Int32 × bw_A1) :=
  lX0_queueLenders_4 tp ts np p1 bw_fu tq 0 0
def jX0_placeOfLoan_38 (k2 : Int32 → Option Int32) (tl : bw_A1) (nl : Int32) (x1 : Int32) (x2 : Int32) (x3 : Int32) : Option Int32 :=
  bw_let (x3 + 1 : Int32) fun x3_38 =>
  k2 x3_38
def bX0_placeOfLoan_2 (k2 : Int32 → Option Int32) (tl : bw_A1) (nl : Int32) (x1 : Int32) (x2 : Int32) (x3 : Int32) : Option Int32 :=
  if nl ≤ x3 then
    some (-1)
  else
    bw_b1 (fX3_get 90 3 tl x3 0) fun r16 =>
    if r16 = x1 then
      bw_b1 (fX3_get 90 3 tl x3 1) fun r29 =>
      if r29 = x2 then
        some x3
      else
        jX0_placeOfLoan_38 k2 tl nl x1 x2 x3
    else
      jX0_placeOfLoan_38 k2 tl nl x1 x2 x3
def lX0_placeOfLoan_2 (tl : bw_A1) (nl : Int32) (x1 : Int32) (x2 : Int32) : Nat → Int32 → Option Int32
  | 0 => fun _ => none
  | n + 1 => bX0_placeOfLoan_2  (lX0_placeOfLoan_2 tl nl x1 x2 n) tl nl x1 x2
def fX0_placeOfLoan (tl : bw_A1) (nl : Int32) (p1 : Int32) (p2 : Int32) : Option Int32 :=
  lX0_placeOfLoan_2 tl nl p1 p2 bw_fu 0
def jX0_lendDays_63 (tp : bw_A1) (tl : bw_A1) (nl : Int32) (x1 : Int32) (x2 : Int32) (x3 : Int32) (x4 : Int32) : Option (bw_A1 × bw_A1 × Int32) :=
  bw_b3 (fX0_changeLoan tp tl nl x4 x3) fun tp_67 tl_67 nl_67 =>
  bw_b1 (fX0_moveDays tp_67 x1 x2 x3) fun tp_74 =>
  some (tp_74, tl_67, nl_67)
def fX0_lendDays (tp : bw_A1) (tl : bw_A1) (nl : Int32) (p1 : Int32) (p2 : Int32) (p3 : Int32) : Option (bw_A1 × bw_A1 × Int32) :=
  bw_b1 (fX0_placeOfLoan tl nl p1 p2) fun r3 =>
  if r3 = (-1) then
    bw_let ((nl + 1) : Int32) fun nl_27 =>
    bw_b1 (fX3_put 90 3 tl nl 0 p1) fun tl_38 =>
    bw_b1 (fX3_put 90 3 tl_38 nl 1 p2) fun tl_49 =>
    bw_b1 (fX3_put 90 3 tl_49 nl 2 0) fun tl_60 =>
    jX0_lendDays_63 tp tl_60 nl_27 p1 p2 p3 nl
  else
    jX0_lendDays_63 tp tl nl p1 p2 p3 r3
def bX0_borrow_12 (k12 : bw_A1 → bw_A1 → Int32 → Int32 → Int32 → Option (Int32 × bw_A1 × bw_A1 × bw_A1 × Int32)) (ts : bw_A1) (tq : bw_A1) (np : Int32) (x1 : Int32) (x2 : Int32) (x3 : Int32) (tp : bw_A1) (tl : bw_A1) (nl : Int32) (x4 : Int32) (x5 : Int32) : Option (Int32 × bw_A1 × bw_A1 × bw_A1 × Int32) :=
  if x3 ≤ x5 then
    some (x4, tp, tl, tq, nl)
  else
    if x2 ≤ x4 then
      some (x4, tp, tl, tq, nl)
    else
      bw_b1 (fX3_get 18 3 tq x5 1) fun r35 =>
      bw_let ((bw_min (x2 - x4) r35) : Int32) fun x6_41 =>
      bw_b1 (fX3_get 18 3 tq x5 0) fun r51 =>
      bw_b3 (fX0_lendDays tp tl nl r51 x1 x6_41) fun tp_57 tl_57 nl_57 =>
      bw_b1 (fX0_useDays tp_57 x1 x6_41) fun tp_64 =>
      bw_let ((x4 + x6_41) : Int32) fun x4_72 =>
      bw_let (x5 + 1 : Int32) fun x5_74 =>
      k12 tp_64 tl_57 nl_57 x4_72 x5_74
def lX0_borrow_12 (ts : bw_A1) (tq : bw_A1) (np : Int32) (x1 : Int32) (x2 : Int32) (x3 : Int32) : Nat → bw_A1 → bw_A1 → Int32 → Int32 → Int32 → Option (Int32 × bw_A1 × bw_A1 × bw_A1 × Int32)
  | 0 => fun _ _ _ _ _ => none
  | n + 1 => bX0_borrow_12  (lX0_borrow_12 ts tq np x1 x2 x3 n) ts tq np x1 x2 x3
def fX0_borrow (tp : bw_A1) (tl : bw_A1) (ts : bw_A1) (tq : bw_A1) (np : Int32) (nl : Int32) (p1 : Int32) (p2 : Int32) : Option (Int32 × bw_A1 × bw_A1 × bw_A1 × Int32) :=
  bw_b2 (fX0_queueLenders tp ts tq np p1) fun r2 tq_2 =>
  lX0_borrow_12 ts tq_2 np p1 p2 r2 bw_fu tp tl nl 0 0
def fX0_doNextTask (tp : bw_A1) (tk : bw_A1) (tl : bw_A1) (ts : bw_A1) (tq : bw_A1) (np : Int32) (nl : Int32) (p1 : Int32) (p2 : Int32) : Option (Int32 × bw_A1 × bw_A1 × bw_A1 × bw_A1 × Int32) :=
  bw_b1 (fX3_get 84 14 tp p1 8) fun r8 =>
  bw_b1 (fX0_rowOfTask p1 r8) fun r11 =>
  bw_b1 (fX3_get 288 6 tk r11 0) fun r21 =>
  bw_let ((bw_max 0 (r21 - p2)) : Int32) fun x5_34 =>
  bw_let ((bw_max 0 (p2 - r21)) : Int32) fun x6_44 =>
  bw_b1 (fX3_put 288 6 tk r11 1 p2) fun tk_53 =>
  bw_b1 (fX3_increase 84 14 tp p1 8 1) fun tp_64 =>
  bw_b1 (fX3_increase 84 14 tp_64 p1 13 p2) fun tp_75 =>
  bw_b1 (fX0_useDays tp_75 p1 (-x5_34)) fun tp_83 =>
  bw_b3 (fX0_repay tp_83 tl nl p1 x5_34) fun tp_90 tl_90 nl_90 =>
  bw_b1 (fX3_get 84 14 tp_90 p1 2) fun r101 =>
  bw_let ((bw_min x6_44 r101) : Int32) fun x7_107 =>
  bw_b1 (fX0_useDays tp_90 p1 x7_107) fun tp_113 =>
  bw_b4 (fX0_callBack tp_113 tl_90 nl_90 p1 (x6_44 - x7_107)) fun r123 tp_123 tl_123 nl_123 =>
  bw_b5 (fX0_borrow tp_123 tl_123 ts tq np nl_123 p1 ((x6_44 - x7_107) - r123)) fun r138 tp_138 tl_138 tq_138 nl_138 =>
  bw_let ((((x6_44 - x7_107) - r123) - r138) : Int32) fun x10_154 =>
  bw_b1 (fX3_put 288 6 tk_53 r11 2 x7_107) fun tk_164 =>
  bw_b1 (fX3_put 288 6 tk_164 r11 3 r123) fun tk_175 =>
  bw_b1 (fX3_put 288 6 tk_175 r11 4 r138) fun tk_186 =>
  bw_b1 (fX3_put 288 6 tk_186 r11 5 x10_154) fun tk_197 =>
  bw_b1 (fX3_increase 84 14 tp_138 p1 6 x10_154) fun tp_209 =>
  bw_b1 (fX0_hasNextTask tp_209 p1) fun r214 =>
  if r214 = 0 then
    some (x10_154, tp_209, tk_197, tl_138, tq_138, nl_138)
  else
    bw_b1 (fX3_get 84 14 tp_209 p1 2) fun r228 =>
    bw_b1 (fX3_get 3 3 ts 0 2) fun r237 =>
    bw_b3 (fX0_repay tp_209 tl_138 nl_138 p1 ((r228 * r237) / 100)) fun tp_244 tl_244 nl_244 =>
    some (x10_154, tp_244, tk_197, tl_244, tq_138, nl_244)
def fX0_daysOwed (tl : bw_A1) (nl : Int32) (p1 : Int32) (p2 : Int32) : Option Int32 :=
  bw_b1 (fX0_placeOfLoan tl nl p2 p1) fun r7 =>
  bw_b1 (fX3_get 90 3 tl r7 2) fun r11 =>
  some r11
def fX0_writeOff (tp : bw_A1) (tl : bw_A1) (nl : Int32) (p1 : Int32) : Option (Int32 × bw_A1 × bw_A1 × Int32) :=
  bw_b1 (fX3_get 90 3 tl p1 2) fun r6 =>
  bw_b1 (fX3_get 90 3 tl p1 0) fun r20 =>
  bw_b1 (fX3_increase 84 14 tp r20 11 r6) fun tp_26 =>
  bw_b1 (fX3_get 90 3 tl p1 1) fun r39 =>
  bw_b1 (fX3_increase 84 14 tp_26 r39 10 r6) fun tp_45 =>
  bw_b3 (fX0_changeLoan tp_45 tl nl p1 (-r6)) fun tp_52 tl_52 nl_52 =>
  some (r6, tp_52, tl_52, nl_52)
def jX0_closeProject_69 (k24 : bw_A1 → bw_A1 → Int32 → Int32 → Int32 → Int32 → Option (Int32 × bw_A1 × bw_A1 × Int32)) (tp : bw_A1) (tl : bw_A1) (nl : Int32) (x1 : Int32) (x2 : Int32) (x3 : Int32) (x4 : Int32) : Option (Int32 × bw_A1 × bw_A1 × Int32) :=
  bw_let (x4 + (-1) : Int32) fun x4_69 =>
  k24 tp tl nl x2 x3 x4_69
def jX0_closeProject_55 (k24 : bw_A1 → bw_A1 → Int32 → Int32 → Int32 → Int32 → Option (Int32 × bw_A1 × bw_A1 × Int32)) (tp : bw_A1) (tl : bw_A1) (nl : Int32) (x1 : Int32) (x2 : Int32) (x3 : Int32) (x4 : Int32) : Option (Int32 × bw_A1 × bw_A1 × Int32) :=
  bw_b4 (fX0_writeOff tp tl nl x3) fun r58 tp_58 tl_58 nl_58 =>
  bw_let ((x2 + r58) : Int32) fun x2_62 =>
  jX0_closeProject_69 k24 tp_58 tl_58 nl_58 x1 x2_62 x3 x4
def bX0_closeProject_24 (k24 : bw_A1 → bw_A1 → Int32 → Int32 → Int32 → Int32 → Option (Int32 × bw_A1 × bw_A1 × Int32)) (x1 : Int32) (tp : bw_A1) (tl : bw_A1) (nl : Int32) (x2 : Int32) (x3 : Int32) (x4 : Int32) : Option (Int32 × bw_A1 × bw_A1 × Int32) :=
  if x4 ≤ 0 then
    bw_b1 (fX3_put 84 14 tp x1 9 0) fun tp_83 =>
    some (x2, tp_83, tl, nl)
  else
    bw_b1 (fX3_get 90 3 tl x3 0) fun r35 =>
    if r35 = x1 then
      jX0_closeProject_55 k24 tp tl nl x1 x2 x3 x4
    else
      bw_b1 (fX3_get 90 3 tl x3 1) fun r48 =>
      if r48 = x1 then
        jX0_closeProject_55 k24 tp tl nl x1 x2 x3 x4
      else
        bw_let (x3 + 1 : Int32) fun x3_66 =>
        jX0_closeProject_69 k24 tp tl nl x1 x2 x3_66 x4
def lX0_closeProject_24 (x1 : Int32) : Nat → bw_A1 → bw_A1 → Int32 → Int32 → Int32 → Int32 → Option (Int32 × bw_A1 × bw_A1 × Int32)
  | 0 => fun _ _ _ _ _ _ => none
  | n + 1 => bX0_closeProject_24  (lX0_closeProject_24 x1 n) x1
def fX0_closeProject (tp : bw_A1) (tl : bw_A1) (nl : Int32) (p1 : Int32) : Option (Int32 × bw_A1 × bw_A1 × Int32) :=
  bw_b1 (fX3_get 84 14 tp p1 2) fun r8 =>
  bw_b3 (fX0_repay tp tl nl p1 r8) fun tp_11 tl_11 nl_11 =>
  lX0_closeProject_24 p1 bw_fu tp_11 tl_11 nl_11 0 0 nl_11
def fX0_taskPart (tk : bw_A1) (p1 : Int32) (p2 : Int32) (p3 : Int32) : Option Int32 :=
  bw_b1 (fX0_rowOfTask p1 p2) fun r6 =>
  bw_b1 (fX3_get 288 6 tk r6 p3) fun r10 =>
  some r10
def fX0_loans (nl : Int32) : Option Int32 :=
  some nl
def fX0_loanPart (tl : bw_A1) (p1 : Int32) (p2 : Int32) : Option Int32 :=
  bw_b1 (fX3_get 90 3 tl p1 p2) fun r6 =>
  some r6
def fX0_lenderAt (tp : bw_A1) (ts : bw_A1) (tq : bw_A1) (np : Int32) (p1 : Int32) (p2 : Int32) : Option (Int32 × bw_A1) :=
  bw_b1 (fX0_isOpen tp p1) fun r2 =>
  if r2 = 0 then
    some ((-1), tq)
  else
    bw_b2 (fX0_queueLenders tp ts tq np p1) fun r11 tq_11 =>
    if p2 < r11 then
      bw_b1 (fX3_get 18 3 tq_11 p2 0) fun r25 =>
      some (r25, tq_11)
    else
      some ((-1), tq_11)
def bX0_sumOfProjects_4 (k4 : Int32 → Int32 → Option Int32) (tp : bw_A1) (np : Int32) (x1 : Int32) (x2 : Int32) (x3 : Int32) : Option Int32 :=
  if np ≤ x3 then
    some x2
  else
    bw_b1 (fX3_get 84 14 tp x3 x1) fun r19 =>
    bw_let ((x2 + r19) : Int32) fun x2_23 =>
    bw_let (x3 + 1 : Int32) fun x3_24 =>
    k4 x2_23 x3_24
def lX0_sumOfProjects_4 (tp : bw_A1) (np : Int32) (x1 : Int32) : Nat → Int32 → Int32 → Option Int32
  | 0 => fun _ _ => none
  | n + 1 => bX0_sumOfProjects_4  (lX0_sumOfProjects_4 tp np x1 n) tp np x1
def fX0_sumOfProjects (tp : bw_A1) (np : Int32) (p1 : Int32) : Option Int32 :=
  lX0_sumOfProjects_4 tp np p1 bw_fu 0 0
def bX0_delayOfTasks_14 (k4 : Int32 → Int32 → Option Int32) (k14 : Int32 → Int32 → Option Int32) (tp : bw_A1) (tk : bw_A1) (np : Int32) (x2 : Int32) (x1 : Int32) (x3 : Int32) : Option Int32 :=
  bw_b1 (fX3_get 84 14 tp x2 8) fun r22 =>
  if r22 ≤ x3 then
    bw_let (x2 + 1 : Int32) fun x2_69 =>
    k4 x1 x2_69
  else
    bw_b1 (fX0_rowOfTask x2 x3) fun r30 =>
    bw_b1 (fX3_get 288 6 tk r30 1) fun r44 =>
    bw_b1 (fX3_get 288 6 tk r30 0) fun r54 =>
    bw_let ((x1 + (bw_max 0 (r44 - r54))) : Int32) fun x1_62 =>
    bw_let (x3 + 1 : Int32) fun x3_63 =>
    k14 x1_62 x3_63
def lX0_delayOfTasks_14 (k4 : Int32 → Int32 → Option Int32) (tp : bw_A1) (tk : bw_A1) (np : Int32) (x2 : Int32) : Nat → Int32 → Int32 → Option Int32
  | 0 => fun _ _ => none
  | n + 1 => bX0_delayOfTasks_14 k4 (lX0_delayOfTasks_14 k4 tp tk np x2 n) tp tk np x2
def bX0_delayOfTasks_4 (k4 : Int32 → Int32 → Option Int32) (tp : bw_A1) (tk : bw_A1) (np : Int32) (x1 : Int32) (x2 : Int32) : Option Int32 :=
  if np ≤ x2 then
    some x1
  else
    lX0_delayOfTasks_14 k4 tp tk np x2 bw_fu x1 0
def lX0_delayOfTasks_4 (tp : bw_A1) (tk : bw_A1) (np : Int32) : Nat → Int32 → Int32 → Option Int32
  | 0 => fun _ _ => none
  | n + 1 => bX0_delayOfTasks_4  (lX0_delayOfTasks_4 tp tk np n) tp tk np
def fX0_delayOfTasks (tp : bw_A1) (tk : bw_A1) (np : Int32) : Option Int32 :=
  lX0_delayOfTasks_4 tp tk np bw_fu 0 0
def fX0_valueOf (ts : bw_A1) (p1 : Int32) : Option Int32 :=
  bw_b1 (fX3_get 3 3 ts 0 p1) fun r6 =>
  some r6
def jX0_bearableDelay_76 (k22 : Int32 → Int32 → Option Int32) (tp : bw_A1) (tl : bw_A1) (ts : bw_A1) (np : Int32) (nl : Int32) (x1 : Int32) (x2 : Int32) (x3 : Int32) : Option Int32 :=
  bw_let (x3 + 1 : Int32) fun x3_76 =>
  k22 x2 x3_76
def bX0_bearableDelay_22 (k22 : Int32 → Int32 → Option Int32) (tp : bw_A1) (tl : bw_A1) (ts : bw_A1) (np : Int32) (nl : Int32) (x1 : Int32) (x2 : Int32) (x3 : Int32) : Option Int32 :=
  if np ≤ x3 then
    some x2
  else
    if x3 = x1 then
      jX0_bearableDelay_76 k22 tp tl ts np nl x1 x2 x3
    else
      bw_b1 (fX0_isOpen tp x3) fun r37 =>
      if r37 = 0 then
        jX0_bearableDelay_76 k22 tp tl ts np nl x1 x2 x3
      else
        bw_b1 (fX3_get 84 14 tp x3 2) fun r49 =>
        bw_b1 (fX0_daysOwed tl nl x3 x1) fun r55 =>
        bw_let ((bw_min r49 r55) : Int32) fun x4_61 =>
        bw_b1 (fX0_lendableDays tp ts x3 x4_61) fun r70 =>
        bw_let ((x2 + (x4_61 + r70)) : Int32) fun x2_75 =>
        jX0_bearableDelay_76 k22 tp tl ts np nl x1 x2_75 x3
def lX0_bearableDelay_22 (tp : bw_A1) (tl : bw_A1) (ts : bw_A1) (np : Int32) (nl : Int32) (x1 : Int32) : Nat → Int32 → Int32 → Option Int32
  | 0 => fun _ _ => none
  | n + 1 => bX0_bearableDelay_22  (lX0_bearableDelay_22 tp tl ts np nl x1 n) tp tl ts np nl x1
def fX0_bearableDelay (tp : bw_A1) (tl : bw_A1) (ts : bw_A1) (np : Int32) (nl : Int32) (p1 : Int32) : Option Int32 :=
  bw_b1 (fX0_isOpen tp p1) fun r2 =>
  if r2 = 0 then
    some (-1)
  else
    bw_b1 (fX3_get 84 14 tp p1 2) fun r16 =>
    lX0_bearableDelay_22 tp tl ts np nl p1 bw_fu r16 0
def jX0_weakestProject_45 (k6 : Int32 → Int32 → Int32 → Option Int32) (tp : bw_A1) (tl : bw_A1) (ts : bw_A1) (np : Int32) (nl : Int32) (x1 : Int32) (x2 : Int32) (x3 : Int32) : Option Int32 :=
  bw_let (x3 + 1 : Int32) fun x3_45 =>
  k6 x1 x2 x3_45
def jX0_weakestProject_40 (k6 : Int32 → Int32 → Int32 → Option Int32) (tp : bw_A1) (tl : bw_A1) (ts : bw_A1) (np : Int32) (nl : Int32) (x3 : Int32) (x4 : Int32) : Option Int32 :=
  jX0_weakestProject_45 k6 tp tl ts np nl x3 x4 x3
def bX0_weakestProject_6 (k6 : Int32 → Int32 → Int32 → Option Int32) (tp : bw_A1) (tl : bw_A1) (ts : bw_A1) (np : Int32) (nl : Int32) (x1 : Int32) (x2 : Int32) (x3 : Int32) : Option Int32 :=
  if np ≤ x3 then
    some x1
  else
    bw_b1 (fX0_bearableDelay tp tl ts np nl x3) fun r16 =>
    bw_b1 (fX0_isOpen tp x3) fun r23 =>
    if r23 = 0 then
      jX0_weakestProject_45 k6 tp tl ts np nl x1 x2 x3
    else
      if x1 = (-1) then
        jX0_weakestProject_40 k6 tp tl ts np nl x3 r16
      else
        if x2 ≤ r16 then
          jX0_weakestProject_45 k6 tp tl ts np nl x1 x2 x3
        else
          jX0_weakestProject_40 k6 tp tl ts np nl x3 r16
def lX0_weakestProject_6 (tp : bw_A1) (tl : bw_A1) (ts : bw_A1) (np : Int32) (nl : Int32) : Nat → Int32 → Int32 → Int32 → Option Int32
  | 0 => fun _ _ _ => none
  | n + 1 => bX0_weakestProject_6  (lX0_weakestProject_6 tp tl ts np nl n) tp tl ts np nl
def fX0_weakestProject (tp : bw_A1) (tl : bw_A1) (ts : bw_A1) (np : Int32) (nl : Int32) : Option Int32 :=
  lX0_weakestProject_6 tp tl ts np nl bw_fu (-1) (-1) 0
def jX0_leastDaysLeft_42 (k4 : Int32 → Int32 → Option Int32) (tp : bw_A1) (np : Int32) (x1 : Int32) (x2 : Int32) : Option Int32 :=
  bw_let (x2 + 1 : Int32) fun x2_42 =>
  k4 x1 x2_42
def jX0_leastDaysLeft_40 (k4 : Int32 → Int32 → Option Int32) (tp : bw_A1) (np : Int32) (x2 : Int32) (x3 : Int32) : Option Int32 :=
  jX0_leastDaysLeft_42 k4 tp np x3 x2
def bX0_leastDaysLeft_4 (k4 : Int32 → Int32 → Option Int32) (tp : bw_A1) (np : Int32) (x1 : Int32) (x2 : Int32) : Option Int32 :=
  if np ≤ x2 then
    some x1
  else
    bw_b1 (fX3_get 84 14 tp x2 2) fun r18 =>
    bw_b1 (fX0_isOpen tp x2) fun r24 =>
    if r24 = 0 then
      jX0_leastDaysLeft_42 k4 tp np x1 x2
    else
      if x1 = (-1) then
        jX0_leastDaysLeft_40 k4 tp np x2 r18
      else
        if x1 ≤ r18 then
          jX0_leastDaysLeft_42 k4 tp np x1 x2
        else
          jX0_leastDaysLeft_40 k4 tp np x2 r18
def lX0_leastDaysLeft_4 (tp : bw_A1) (np : Int32) : Nat → Int32 → Int32 → Option Int32
  | 0 => fun _ _ => none
  | n + 1 => bX0_leastDaysLeft_4  (lX0_leastDaysLeft_4 tp np n) tp np
def fX0_leastDaysLeft (tp : bw_A1) (np : Int32) : Option Int32 :=
  lX0_leastDaysLeft_4 tp np bw_fu (-1) 0
