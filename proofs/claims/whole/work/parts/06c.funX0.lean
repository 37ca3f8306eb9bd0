def fX0_projects (np : Int32) : Option Int32 :=
  some np
def fX0_addProject (P : bw_A1) (np : Int32) (p1 : Int32) (p2 : Int32) : Option (Int32 × bw_A1 × Int32) :=
  bw_let ((np + 1) : Int32) fun np_12 =>
  bw_b1 (fX3_put 84 14 P np 0 p1) fun P_22 =>
  bw_b1 (fX3_put 84 14 P_22 np 1 p2) fun P_32 =>
  bw_b1 (fX3_put 84 14 P_32 np 2 p2) fun P_42 =>
  bw_b1 (fX3_put 84 14 P_42 np 9 1) fun P_53 =>
  some (np, P_53, np_12)
def fX0_isOpen (P : bw_A1) (p1 : Int32) : Option Int32 :=
  bw_b1 (fX3_get 84 14 P p1 9) fun r7 =>
  if r7 = 1 then
    some 1
  else
    some 0
def fX0_lendableDays (P : bw_A1) (S : bw_A1) (p1 : Int32) (p2 : Int32) : Option Int32 :=
  bw_b1 (fX3_get 84 14 P p1 1) fun r6 =>
  bw_b1 (fX3_get 3 3 S 0 1) fun r15 =>
  bw_let (((r6 * r15) / 100) : Int32) fun x3_22 =>
  bw_b1 (fX3_get 84 14 P p1 2) fun r30 =>
  some (bw_max 0 ((r30 - p2) - x3_22))
def fX0_projectPart (P : bw_A1) (S : bw_A1) (p1 : Int32) (p2 : Int32) : Option Int32 :=
  if p2 = 14 then
    bw_b1 (fX0_isOpen P p1) fun r18 =>
    if r18 = 0 then
      some 0
    else
      bw_b1 (fX0_lendableDays P S p1 0) fun r27 =>
      some r27
  else
    bw_b1 (fX3_get 84 14 P p1 p2) fun r12 =>
    some r12
def fX0_rowOfTask (p0 : Int32) (p1 : Int32) : Option Int32 :=
  some ((p0 * 8) + p1)
def fX0_addTask (P : bw_A1) (T : bw_A1) (p1 : Int32) (p2 : Int32) : Option (Int32 × bw_A1 × bw_A1) :=
  bw_b1 (fX3_get 84 14 P p1 7) fun r7 =>
  bw_b1 (fX0_rowOfTask p1 r7) fun r13 =>
  bw_b1 (fX3_put 288 6 T r13 0 p2) fun T_26 =>
  bw_b1 (fX3_put 288 6 T_26 r13 1 (-1)) fun T_37 =>
  bw_b1 (fX3_increase 84 14 P p1 7 1) fun P_48 =>
  bw_b1 (fX3_increase 84 14 P_48 p1 12 p2) fun P_59 =>
  some (r7, P_59, T_37)
def fX0_changeRank (P : bw_A1) (p1 : Int32) (p2 : Int32) : Option (Int32 × bw_A1) :=
  bw_b1 (fX3_get 84 14 P p1 0) fun r6 =>
  bw_b1 (fX3_put 84 14 P p1 0 p2) fun P_17 =>
  some (r6, P_17)
def fX0_changeSetting (S : bw_A1) (p1 : Int32) (p2 : Int32) : Option (Int32 × bw_A1) :=
  bw_b1 (fX3_get 3 3 S 0 p1) fun r6 =>
  bw_b1 (fX3_put 3 3 S 0 p1 p2) fun S_17 =>
  some (r6, S_17)
def jX0_hasNextTask_35 (P : bw_A1) : Option Int32 :=
  some 0
def fX0_hasNextTask (P : bw_A1) (p1 : Int32) : Option Int32 :=
  bw_b1 (fX0_isOpen P p1) fun r2 =>
  if r2 = 0 then
    jX0_hasNextTask_35 P
  else
    bw_b1 (fX3_get 84 14 P p1 8) fun r15 =>
    bw_b1 (fX3_get 84 14 P p1 7) fun r25 =>
    if r25 ≤ r15 then
      jX0_hasNextTask_35 P
    else
      some 1
def fX0_useDays (P : bw_A1) (p1 : Int32) (p2 : Int32) : Option bw_A1 :=
  bw_b1 (fX3_increase 84 14 P p1 2 (-p2)) fun P_8 =>
  bw_b1 (fX3_increase 84 14 P_8 p1 3 p2) fun P_18 =>
  some P_18
def fX0_changeLoan (P : bw_A1) (L : bw_A1) (nl : Int32) (p1 : Int32) (p2 : Int32) : Option (bw_A1 × bw_A1 × Int32) :=
  bw_b1 (fX3_increase 90 3 L p1 2 p2) fun L_7 =>
  bw_b1 (fX3_get 90 3 L_7 p1 0) fun r20 =>
  bw_b1 (fX3_increase 84 14 P r20 5 p2) fun P_25 =>
  bw_b1 (fX3_get 90 3 L_7 p1 1) fun r38 =>
  bw_b1 (fX3_increase 84 14 P_25 r38 4 p2) fun P_43 =>
  bw_b1 (fX3_get 90 3 L_7 p1 2) fun r52 =>
  if r52 = 0 then
    bw_b1 (fX3_removeRow 90 3 L_7 p1) fun L_63 =>
    bw_let ((nl - 1) : Int32) fun nl_73 =>
    some (P_43, L_63, nl_73)
  else
    some (P_43, L_7, nl)
def fX0_moveDays (P : bw_A1) (p1 : Int32) (p2 : Int32) (p3 : Int32) : Option bw_A1 :=
  bw_b1 (fX3_increase 84 14 P p1 2 (-p3)) fun P_8 =>
  bw_b1 (fX3_increase 84 14 P_8 p2 2 p3) fun P_18 =>
  some P_18
def fX0_payLoan (P : bw_A1) (L : bw_A1) (nl : Int32) (p1 : Int32) (p2 : Int32) : Option (bw_A1 × bw_A1 × Int32) :=
  bw_b1 (fX3_get 90 3 L p1 0) fun r6 =>
  bw_b1 (fX3_get 90 3 L p1 1) fun r16 =>
  bw_b3 (fX0_changeLoan P L nl p1 (-p2)) fun P_25 L_25 nl_25 =>
  bw_b1 (fX0_moveDays P_25 r16 r6 p2) fun P_33 =>
  some (P_33, L_25, nl_25)
def jX0_repay_80 (k11 : bw_A1 → bw_A1 → Int32 → Int32 → Int32 → Int32 → Option (bw_A1 × bw_A1 × Int32)) (P : bw_A1) (L : bw_A1) (nl : Int32) (x1 : Int32) (x3 : Int32) (x4 : Int32) (x5 : Int32) : Option (bw_A1 × bw_A1 × Int32) :=
  bw_let (x5 + (-1) : Int32) fun x5_80 =>
  k11 P L nl x3 x4 x5_80
def jX0_repay_70 (k11 : bw_A1 → bw_A1 → Int32 → Int32 → Int32 → Int32 → Option (bw_A1 × bw_A1 × Int32)) (P : bw_A1) (L : bw_A1) (nl : Int32) (x1 : Int32) (x3 : Int32) (x4 : Int32) (x5 : Int32) (x6 : Int32) (x7 : Int32) : Option (bw_A1 × bw_A1 × Int32) :=
  if x6 ≤ x7 then
    jX0_repay_80 k11 P L nl x1 x3 x4 x5
  else
    bw_let (x4 + 1 : Int32) fun x4_77 =>
    jX0_repay_80 k11 P L nl x1 x3 x4_77 x5
def bX0_repay_11 (k11 : bw_A1 → bw_A1 → Int32 → Int32 → Int32 → Int32 → Option (bw_A1 × bw_A1 × Int32)) (x1 : Int32) (P : bw_A1) (L : bw_A1) (nl : Int32) (x3 : Int32) (x4 : Int32) (x5 : Int32) : Option (bw_A1 × bw_A1 × Int32) :=
  if x5 ≤ 0 then
    some (P, L, nl)
  else
    if x3 ≤ 0 then
      some (P, L, nl)
    else
      bw_b1 (fX3_get 90 3 L x4 2) fun r27 =>
      bw_b1 (fX3_get 90 3 L x4 1) fun r42 =>
      if r42 = x1 then
        bw_let ((bw_min x3 r27) : Int32) fun x7_55 =>
        bw_b3 (fX0_payLoan P L nl x4 x7_55) fun P_62 L_62 nl_62 =>
        bw_let ((x3 - x7_55) : Int32) fun x3_69 =>
        jX0_repay_70 k11 P_62 L_62 nl_62 x1 x3_69 x4 x5 r27 x7_55
      else
        jX0_repay_70 k11 P L nl x1 x3 x4 x5 r27 0
def lX0_repay_11 (x1 : Int32) : Nat → bw_A1 → bw_A1 → Int32 → Int32 → Int32 → Int32 → Option (bw_A1 × bw_A1 × Int32)
  | 0 => fun _ _ _ _ _ _ => none
  | n + 1 => bX0_repay_11  (lX0_repay_11 x1 n) x1
def fX0_repay (P : bw_A1) (L : bw_A1) (nl : Int32) (p1 : Int32) (p2 : Int32) : Option (bw_A1 × bw_A1 × Int32) :=
  lX0_repay_11 p1 bw_fu P L nl p2 0 nl
def jX0_callBack_115 (k11 : bw_A1 → bw_A1 → Int32 → Int32 → Int32 → Int32 → Option (Int32 × bw_A1 × bw_A1 × Int32)) (P : bw_A1) (L : bw_A1) (nl : Int32) (x1 : Int32) (x2 : Int32) (x3 : Int32) (x4 : Int32) (x5 : Int32) : Option (Int32 × bw_A1 × bw_A1 × Int32) :=
  bw_let (x5 + (-1) : Int32) fun x5_115 =>
  k11 P L nl x3 x4 x5_115
def jX0_callBack_105 (k11 : bw_A1 → bw_A1 → Int32 → Int32 → Int32 → Int32 → Option (Int32 × bw_A1 × bw_A1 × Int32)) (P : bw_A1) (L : bw_A1) (nl : Int32) (x1 : Int32) (x2 : Int32) (x3 : Int32) (x4 : Int32) (x5 : Int32) (x6 : Int32) (x7 : Int32) : Option (Int32 × bw_A1 × bw_A1 × Int32) :=
  if x6 ≤ x7 then
    jX0_callBack_115 k11 P L nl x1 x2 x3 x4 x5
  else
    bw_let (x4 + 1 : Int32) fun x4_112 =>
    jX0_callBack_115 k11 P L nl x1 x2 x3 x4_112 x5
def bX0_callBack_11 (k11 : bw_A1 → bw_A1 → Int32 → Int32 → Int32 → Int32 → Option (Int32 × bw_A1 × bw_A1 × Int32)) (x1 : Int32) (x2 : Int32) (P : bw_A1) (L : bw_A1) (nl : Int32) (x3 : Int32) (x4 : Int32) (x5 : Int32) : Option (Int32 × bw_A1 × bw_A1 × Int32) :=
  if x5 ≤ 0 then
    some (x3, P, L, nl)
  else
    if x2 ≤ x3 then
      some (x3, P, L, nl)
    else
      bw_b1 (fX3_get 90 3 L x4 2) fun r28 =>
      bw_b1 (fX3_get 90 3 L x4 0) fun r43 =>
      if r43 = x1 then
        bw_b1 (fX3_get 90 3 L x4 1) fun r61 =>
        bw_b1 (fX3_get 84 14 P r61 2) fun r65 =>
        bw_let ((bw_min (x2 - x3) (bw_min r65 r28)) : Int32) fun x7_83 =>
        bw_b3 (fX0_payLoan P L nl x4 x7_83) fun P_90 L_90 nl_90 =>
        bw_b1 (fX0_useDays P_90 x1 x7_83) fun P_97 =>
        bw_let ((x3 + x7_83) : Int32) fun x3_104 =>
        jX0_callBack_105 k11 P_97 L_90 nl_90 x1 x2 x3_104 x4 x5 r28 x7_83
      else
        jX0_callBack_105 k11 P L nl x1 x2 x3 x4 x5 r28 0
def lX0_callBack_11 (x1 : Int32) (x2 : Int32) : Nat → bw_A1 → bw_A1 → Int32 → Int32 → Int32 → Int32 → Option (Int32 × bw_A1 × bw_A1 × Int32)
  | 0 => fun _ _ _ _ _ _ => none
  | n + 1 => bX0_callBack_11  (lX0_callBack_11 x1 x2 n) x1 x2
def fX0_callBack (P : bw_A1) (L : bw_A1) (nl : Int32) (p1 : Int32) (p2 : Int32) : Option (Int32 × bw_A1 × bw_A1 × Int32) :=
  lX0_callBack_11 p1 p2 bw_fu P L nl 0 0 nl
def fX0_weightOfLender (P : bw_A1) (S : bw_A1) (p1 : Int32) (p2 : Int32) : Option Int32 :=
  bw_b1 (fX3_get 3 3 S 0 0) fun r6 =>
  if r6 = 0 then
    bw_b1 (fX3_get 84 14 P p1 0) fun r42 =>
    some r42
  else
    if r6 = 1 then
      some p2
    else
      bw_b1 (fX3_get 84 14 P p1 5) fun r54 =>
      some (-r54)
def jX0_queueLenders_129 (k4 : bw_A1 → Int32 → Int32 → Option (Int32 × bw_A1)) (P : bw_A1) (S : bw_A1) (Q : bw_A1) (np : Int32) (x1 : Int32) (x2 : Int32) (x3 : Int32) : Option (Int32 × bw_A1) :=
  bw_let (x3 + 1 : Int32) fun x3_129 =>
  k4 Q x2 x3_129
def jX0_queueLenders_82 (k4 : bw_A1 → Int32 → Int32 → Option (Int32 × bw_A1)) (P : bw_A1) (S : bw_A1) (Q : bw_A1) (np : Int32) (x1 : Int32) (x2 : Int32) (x3 : Int32) (x4 : Int32) (x5 : Int32) (x6 : Int32) : Option (Int32 × bw_A1) :=
  bw_b1 (fX3_insertRow 18 3 Q x6) fun Q_88 =>
  bw_b1 (fX3_put 18 3 Q_88 x6 0 x3) fun Q_99 =>
  bw_b1 (fX3_put 18 3 Q_99 x6 1 x4) fun Q_111 =>
  bw_b1 (fX3_put 18 3 Q_111 x6 2 x5) fun Q_123 =>
  bw_let (x2 + 1 : Int32) fun x2_126 =>
  jX0_queueLenders_129 k4 P S Q_123 np x1 x2_126 x3
def bX0_queueLenders_54 (k4 : bw_A1 → Int32 → Int32 → Option (Int32 × bw_A1)) (k54 : Int32 → Option (Int32 × bw_A1)) (P : bw_A1) (S : bw_A1) (Q : bw_A1) (np : Int32) (x1 : Int32) (x2 : Int32) (x3 : Int32) (x4 : Int32) (x5 : Int32) (x6 : Int32) : Option (Int32 × bw_A1) :=
  if x6 ≤ 0 then
    jX0_queueLenders_82 k4 P S Q np x1 x2 x3 x4 x5 x6
  else
    bw_b1 (fX3_get 18 3 Q (x6 - 1) 2) fun r68 =>
    if x5 ≤ r68 then
      jX0_queueLenders_82 k4 P S Q np x1 x2 x3 x4 x5 x6
    else
      bw_let (x6 + (-1) : Int32) fun x6_76 =>
      k54 x6_76
def lX0_queueLenders_54 (k4 : bw_A1 → Int32 → Int32 → Option (Int32 × bw_A1)) (P : bw_A1) (S : bw_A1) (Q : bw_A1) (np : Int32) (x1 : Int32) (x2 : Int32) (x3 : Int32) (x4 : Int32) (x5 : Int32) : Nat → Int32 → Option (Int32 × bw_A1)
  | 0 => fun _ => none
  | n + 1 => bX0_queueLenders_54 k4 (lX0_queueLenders_54 k4 P S Q np x1 x2 x3 x4 x5 n) P S Q np x1 x2 x3 x4 x5
def jX0_queueLenders_35 (k4 : bw_A1 → Int32 → Int32 → Option (Int32 × bw_A1)) (P : bw_A1) (S : bw_A1) (Q : bw_A1) (np : Int32) (x1 : Int32) (x2 : Int32) (x3 : Int32) (s0 : Int32) : Option (Int32 × bw_A1) :=
  if s0 ≤ 0 then
    jX0_queueLenders_129 k4 P S Q np x1 x2 x3
  else
    bw_b1 (fX0_weightOfLender P S x3 s0) fun r46 =>
    lX0_queueLenders_54 k4 P S Q np x1 x2 x3 s0 r46 bw_fu x2
def jX0_queueLenders_34 (k4 : bw_A1 → Int32 → Int32 → Option (Int32 × bw_A1)) (P : bw_A1) (S : bw_A1) (Q : bw_A1) (np : Int32) (x1 : Int32) (x2 : Int32) (x3 : Int32) : Option (Int32 × bw_A1) :=
  jX0_queueLenders_35 k4 P S Q np x1 x2 x3 0
def bX0_queueLenders_4 (k4 : bw_A1 → Int32 → Int32 → Option (Int32 × bw_A1)) (P : bw_A1) (S : bw_A1) (np : Int32) (x1 : Int32) (Q : bw_A1) (x2 : Int32) (x3 : Int32) : Option (Int32 × bw_A1) :=
  if np ≤ x3 then
    some (x2, Q)
  else
    if x3 = x1 then
      jX0_queueLenders_34 k4 P S Q np x1 x2 x3
    else
      bw_b1 (fX0_isOpen P x3) fun r19 =>
      if r19 = 0 then
        jX0_queueLenders_34 k4 P S Q np x1 x2 x3
      else
        bw_b1 (fX0_lendableDays P S x3 0) fun r28 =>
        jX0_queueLenders_35 k4 P S Q np x1 x2 x3 r28
def lX0_queueLenders_4 (P : bw_A1) (S : bw_A1) (np : Int32) (x1 : Int32) : Nat → bw_A1 → Int32 → Int32 → Option (Int32 × bw_A1)
  | 0 => fun _ _ _ => none
  | n + 1 => bX0_queueLenders_4  (lX0_queueLenders_4 P S np x1 n) P S np x1
def fX0_queueLenders (P : bw_A1) (S : bw_A1) (Q : bw_A1) (np : Int32) (p1 : Int32) : Option (Int32 × bw_A1) :=
  lX0_queueLenders_4 P S np p1 bw_fu Q 0 0
def jX0_placeOfLoan_38 (k2 : Int32 → Option Int32) (L : bw_A1) (nl : Int32) (x1 : Int32) (x2 : Int32) (x3 : Int32) : Option Int32 :=
  bw_let (x3 + 1 : Int32) fun x3_38 =>
  k2 x3_38
def bX0_placeOfLoan_2 (k2 : Int32 → Option Int32) (L : bw_A1) (nl : Int32) (x1 : Int32) (x2 : Int32) (x3 : Int32) : Option Int32 :=
  if nl ≤ x3 then
    some (-1)
  else
    bw_b1 (fX3_get 90 3 L x3 0) fun r16 =>
    if r16 = x1 then
      bw_b1 (fX3_get 90 3 L x3 1) fun r29 =>
      if r29 = x2 then
        some x3
      else
        jX0_placeOfLoan_38 k2 L nl x1 x2 x3
    else
      jX0_placeOfLoan_38 k2 L nl x1 x2 x3
def lX0_placeOfLoan_2 (L : bw_A1) (nl : Int32) (x1 : Int32) (x2 : Int32) : Nat → Int32 → Option Int32
  | 0 => fun _ => none
  | n + 1 => bX0_placeOfLoan_2  (lX0_placeOfLoan_2 L nl x1 x2 n) L nl x1 x2
def fX0_placeOfLoan (L : bw_A1) (nl : Int32) (p1 : Int32) (p2 : Int32) : Option Int32 :=
  lX0_placeOfLoan_2 L nl p1 p2 bw_fu 0
def jX0_lendDays_63 (P : bw_A1) (L : bw_A1) (nl : Int32) (x1 : Int32) (x2 : Int32) (x3 : Int32) (x4 : Int32) : Option (bw_A1 × bw_A1 × Int32) :=
  bw_b3 (fX0_changeLoan P L nl x4 x3) fun P_67 L_67 nl_67 =>
  bw_b1 (fX0_moveDays P_67 x1 x2 x3) fun P_74 =>
  some (P_74, L_67, nl_67)
def fX0_lendDays (P : bw_A1) (L : bw_A1) (nl : Int32) (p1 : Int32) (p2 : Int32) (p3 : Int32) : Option (bw_A1 × bw_A1 × Int32) :=
  bw_b1 (fX0_placeOfLoan L nl p1 p2) fun r3 =>
  if r3 = (-1) then
    bw_let ((nl + 1) : Int32) fun nl_27 =>
    bw_b1 (fX3_put 90 3 L nl 0 p1) fun L_38 =>
    bw_b1 (fX3_put 90 3 L_38 nl 1 p2) fun L_49 =>
    bw_b1 (fX3_put 90 3 L_49 nl 2 0) fun L_60 =>
    jX0_lendDays_63 P L_60 nl_27 p1 p2 p3 nl
  else
    jX0_lendDays_63 P L nl p1 p2 p3 r3
def bX0_borrow_12 (k12 : bw_A1 → bw_A1 → Int32 → Int32 → Int32 → Option (Int32 × bw_A1 × bw_A1 × bw_A1 × Int32)) (S : bw_A1) (Q : bw_A1) (np : Int32) (x1 : Int32) (x2 : Int32) (x3 : Int32) (P : bw_A1) (L : bw_A1) (nl : Int32) (x4 : Int32) (x5 : Int32) : Option (Int32 × bw_A1 × bw_A1 × bw_A1 × Int32) :=
  if x3 ≤ x5 then
    some (x4, P, L, Q, nl)
  else
    if x2 ≤ x4 then
      some (x4, P, L, Q, nl)
    else
      bw_b1 (fX3_get 18 3 Q x5 1) fun r35 =>
      bw_let ((bw_min (x2 - x4) r35) : Int32) fun x6_41 =>
      bw_b1 (fX3_get 18 3 Q x5 0) fun r51 =>
      bw_b3 (fX0_lendDays P L nl r51 x1 x6_41) fun P_57 L_57 nl_57 =>
      bw_b1 (fX0_useDays P_57 x1 x6_41) fun P_64 =>
      bw_let ((x4 + x6_41) : Int32) fun x4_72 =>
      bw_let (x5 + 1 : Int32) fun x5_74 =>
      k12 P_64 L_57 nl_57 x4_72 x5_74
def lX0_borrow_12 (S : bw_A1) (Q : bw_A1) (np : Int32) (x1 : Int32) (x2 : Int32) (x3 : Int32) : Nat → bw_A1 → bw_A1 → Int32 → Int32 → Int32 → Option (Int32 × bw_A1 × bw_A1 × bw_A1 × Int32)
  | 0 => fun _ _ _ _ _ => none
  | n + 1 => bX0_borrow_12  (lX0_borrow_12 S Q np x1 x2 x3 n) S Q np x1 x2 x3
def fX0_borrow (P : bw_A1) (L : bw_A1) (S : bw_A1) (Q : bw_A1) (np : Int32) (nl : Int32) (p1 : Int32) (p2 : Int32) : Option (Int32 × bw_A1 × bw_A1 × bw_A1 × Int32) :=
  bw_b2 (fX0_queueLenders P S Q np p1) fun r2 Q_2 =>
  lX0_borrow_12 S Q_2 np p1 p2 r2 bw_fu P L nl 0 0
def fX0_doNextTask (P : bw_A1) (T : bw_A1) (L : bw_A1) (S : bw_A1) (Q : bw_A1) (np : Int32) (nl : Int32) (p1 : Int32) (p2 : Int32) : Option (Int32 × bw_A1 × bw_A1 × bw_A1 × bw_A1 × Int32) :=
  bw_b1 (fX3_get 84 14 P p1 8) fun r8 =>
  bw_b1 (fX0_rowOfTask p1 r8) fun r11 =>
  bw_b1 (fX3_get 288 6 T r11 0) fun r21 =>
  bw_let ((bw_max 0 (r21 - p2)) : Int32) fun x5_34 =>
  bw_let ((bw_max 0 (p2 - r21)) : Int32) fun x6_44 =>
  bw_b1 (fX3_put 288 6 T r11 1 p2) fun T_53 =>
  bw_b1 (fX3_increase 84 14 P p1 8 1) fun P_64 =>
  bw_b1 (fX3_increase 84 14 P_64 p1 13 p2) fun P_75 =>
  bw_b1 (fX0_useDays P_75 p1 (-x5_34)) fun P_83 =>
  bw_b3 (fX0_repay P_83 L nl p1 x5_34) fun P_90 L_90 nl_90 =>
  bw_b1 (fX3_get 84 14 P_90 p1 2) fun r101 =>
  bw_let ((bw_min x6_44 r101) : Int32) fun x7_107 =>
  bw_b1 (fX0_useDays P_90 p1 x7_107) fun P_113 =>
  bw_b4 (fX0_callBack P_113 L_90 nl_90 p1 (x6_44 - x7_107)) fun r123 P_123 L_123 nl_123 =>
  bw_b5 (fX0_borrow P_123 L_123 S Q np nl_123 p1 ((x6_44 - x7_107) - r123)) fun r138 P_138 L_138 Q_138 nl_138 =>
  bw_let ((((x6_44 - x7_107) - r123) - r138) : Int32) fun x10_154 =>
  bw_b1 (fX3_put 288 6 T_53 r11 2 x7_107) fun T_164 =>
  bw_b1 (fX3_put 288 6 T_164 r11 3 r123) fun T_175 =>
  bw_b1 (fX3_put 288 6 T_175 r11 4 r138) fun T_186 =>
  bw_b1 (fX3_put 288 6 T_186 r11 5 x10_154) fun T_197 =>
  bw_b1 (fX3_increase 84 14 P_138 p1 6 x10_154) fun P_209 =>
  bw_b1 (fX0_hasNextTask P_209 p1) fun r214 =>
  if r214 = 0 then
    some (x10_154, P_209, T_197, L_138, Q_138, nl_138)
  else
    bw_b1 (fX3_get 84 14 P_209 p1 2) fun r228 =>
    bw_b1 (fX3_get 3 3 S 0 2) fun r237 =>
    bw_b3 (fX0_repay P_209 L_138 nl_138 p1 ((r228 * r237) / 100)) fun P_244 L_244 nl_244 =>
    some (x10_154, P_244, T_197, L_244, Q_138, nl_244)
def fX0_daysOwed (L : bw_A1) (nl : Int32) (p1 : Int32) (p2 : Int32) : Option Int32 :=
  bw_b1 (fX0_placeOfLoan L nl p2 p1) fun r7 =>
  bw_b1 (fX3_get 90 3 L r7 2) fun r11 =>
  some r11
def fX0_writeOff (P : bw_A1) (L : bw_A1) (nl : Int32) (p1 : Int32) : Option (Int32 × bw_A1 × bw_A1 × Int32) :=
  bw_b1 (fX3_get 90 3 L p1 2) fun r6 =>
  bw_b1 (fX3_get 90 3 L p1 0) fun r20 =>
  bw_b1 (fX3_increase 84 14 P r20 11 r6) fun P_26 =>
  bw_b1 (fX3_get 90 3 L p1 1) fun r39 =>
  bw_b1 (fX3_increase 84 14 P_26 r39 10 r6) fun P_45 =>
  bw_b3 (fX0_changeLoan P_45 L nl p1 (-r6)) fun P_52 L_52 nl_52 =>
  some (r6, P_52, L_52, nl_52)
def jX0_closeProject_69 (k24 : bw_A1 → bw_A1 → Int32 → Int32 → Int32 → Int32 → Option (Int32 × bw_A1 × bw_A1 × Int32)) (P : bw_A1) (L : bw_A1) (nl : Int32) (x1 : Int32) (x2 : Int32) (x3 : Int32) (x4 : Int32) : Option (Int32 × bw_A1 × bw_A1 × Int32) :=
  bw_let (x4 + (-1) : Int32) fun x4_69 =>
  k24 P L nl x2 x3 x4_69
def jX0_closeProject_55 (k24 : bw_A1 → bw_A1 → Int32 → Int32 → Int32 → Int32 → Option (Int32 × bw_A1 × bw_A1 × Int32)) (P : bw_A1) (L : bw_A1) (nl : Int32) (x1 : Int32) (x2 : Int32) (x3 : Int32) (x4 : Int32) : Option (Int32 × bw_A1 × bw_A1 × Int32) :=
  bw_b4 (fX0_writeOff P L nl x3) fun r58 P_58 L_58 nl_58 =>
  bw_let ((x2 + r58) : Int32) fun x2_62 =>
  jX0_closeProject_69 k24 P_58 L_58 nl_58 x1 x2_62 x3 x4
def bX0_closeProject_24 (k24 : bw_A1 → bw_A1 → Int32 → Int32 → Int32 → Int32 → Option (Int32 × bw_A1 × bw_A1 × Int32)) (x1 : Int32) (P : bw_A1) (L : bw_A1) (nl : Int32) (x2 : Int32) (x3 : Int32) (x4 : Int32) : Option (Int32 × bw_A1 × bw_A1 × Int32) :=
  if x4 ≤ 0 then
    bw_b1 (fX3_put 84 14 P x1 9 0) fun P_83 =>
    some (x2, P_83, L, nl)
  else
    bw_b1 (fX3_get 90 3 L x3 0) fun r35 =>
    if r35 = x1 then
      jX0_closeProject_55 k24 P L nl x1 x2 x3 x4
    else
      bw_b1 (fX3_get 90 3 L x3 1) fun r48 =>
      if r48 = x1 then
        jX0_closeProject_55 k24 P L nl x1 x2 x3 x4
      else
        bw_let (x3 + 1 : Int32) fun x3_66 =>
        jX0_closeProject_69 k24 P L nl x1 x2 x3_66 x4
def lX0_closeProject_24 (x1 : Int32) : Nat → bw_A1 → bw_A1 → Int32 → Int32 → Int32 → Int32 → Option (Int32 × bw_A1 × bw_A1 × Int32)
  | 0 => fun _ _ _ _ _ _ => none
  | n + 1 => bX0_closeProject_24  (lX0_closeProject_24 x1 n) x1
def fX0_closeProject (P : bw_A1) (L : bw_A1) (nl : Int32) (p1 : Int32) : Option (Int32 × bw_A1 × bw_A1 × Int32) :=
  bw_b1 (fX3_get 84 14 P p1 2) fun r8 =>
  bw_b3 (fX0_repay P L nl p1 r8) fun P_11 L_11 nl_11 =>
  lX0_closeProject_24 p1 bw_fu P_11 L_11 nl_11 0 0 nl_11
def fX0_taskPart (T : bw_A1) (p1 : Int32) (p2 : Int32) (p3 : Int32) : Option Int32 :=
  bw_b1 (fX0_rowOfTask p1 p2) fun r6 =>
  bw_b1 (fX3_get 288 6 T r6 p3) fun r10 =>
  some r10
def fX0_loans (nl : Int32) : Option Int32 :=
  some nl
def fX0_loanPart (L : bw_A1) (p1 : Int32) (p2 : Int32) : Option Int32 :=
  bw_b1 (fX3_get 90 3 L p1 p2) fun r6 =>
  some r6
def fX0_lenderAt (P : bw_A1) (S : bw_A1) (Q : bw_A1) (np : Int32) (p1 : Int32) (p2 : Int32) : Option (Int32 × bw_A1) :=
  bw_b1 (fX0_isOpen P p1) fun r2 =>
  if r2 = 0 then
    some ((-1), Q)
  else
    bw_b2 (fX0_queueLenders P S Q np p1) fun r11 Q_11 =>
    if p2 < r11 then
      bw_b1 (fX3_get 18 3 Q_11 p2 0) fun r25 =>
      some (r25, Q_11)
    else
      some ((-1), Q_11)
def bX0_sumOfProjects_4 (k4 : Int32 → Int32 → Option Int32) (P : bw_A1) (np : Int32) (x1 : Int32) (x2 : Int32) (x3 : Int32) : Option Int32 :=
  if np ≤ x3 then
    some x2
  else
    bw_b1 (fX3_get 84 14 P x3 x1) fun r19 =>
    bw_let ((x2 + r19) : Int32) fun x2_23 =>
    bw_let (x3 + 1 : Int32) fun x3_24 =>
    k4 x2_23 x3_24
def lX0_sumOfProjects_4 (P : bw_A1) (np : Int32) (x1 : Int32) : Nat → Int32 → Int32 → Option Int32
  | 0 => fun _ _ => none
  | n + 1 => bX0_sumOfProjects_4  (lX0_sumOfProjects_4 P np x1 n) P np x1
def fX0_sumOfProjects (P : bw_A1) (np : Int32) (p1 : Int32) : Option Int32 :=
  lX0_sumOfProjects_4 P np p1 bw_fu 0 0
def bX0_delayOfTasks_14 (k4 : Int32 → Int32 → Option Int32) (k14 : Int32 → Int32 → Option Int32) (P : bw_A1) (T : bw_A1) (np : Int32) (x2 : Int32) (x1 : Int32) (x3 : Int32) : Option Int32 :=
  bw_b1 (fX3_get 84 14 P x2 8) fun r22 =>
  if r22 ≤ x3 then
    bw_let (x2 + 1 : Int32) fun x2_69 =>
    k4 x1 x2_69
  else
    bw_b1 (fX0_rowOfTask x2 x3) fun r30 =>
    bw_b1 (fX3_get 288 6 T r30 1) fun r44 =>
    bw_b1 (fX3_get 288 6 T r30 0) fun r54 =>
    bw_let ((x1 + (bw_max 0 (r44 - r54))) : Int32) fun x1_62 =>
    bw_let (x3 + 1 : Int32) fun x3_63 =>
    k14 x1_62 x3_63
def lX0_delayOfTasks_14 (k4 : Int32 → Int32 → Option Int32) (P : bw_A1) (T : bw_A1) (np : Int32) (x2 : Int32) : Nat → Int32 → Int32 → Option Int32
  | 0 => fun _ _ => none
  | n + 1 => bX0_delayOfTasks_14 k4 (lX0_delayOfTasks_14 k4 P T np x2 n) P T np x2
def bX0_delayOfTasks_4 (k4 : Int32 → Int32 → Option Int32) (P : bw_A1) (T : bw_A1) (np : Int32) (x1 : Int32) (x2 : Int32) : Option Int32 :=
  if np ≤ x2 then
    some x1
  else
    lX0_delayOfTasks_14 k4 P T np x2 bw_fu x1 0
def lX0_delayOfTasks_4 (P : bw_A1) (T : bw_A1) (np : Int32) : Nat → Int32 → Int32 → Option Int32
  | 0 => fun _ _ => none
  | n + 1 => bX0_delayOfTasks_4  (lX0_delayOfTasks_4 P T np n) P T np
def fX0_delayOfTasks (P : bw_A1) (T : bw_A1) (np : Int32) : Option Int32 :=
  lX0_delayOfTasks_4 P T np bw_fu 0 0
def fX0_valueOf (S : bw_A1) (p1 : Int32) : Option Int32 :=
  bw_b1 (fX3_get 3 3 S 0 p1) fun r6 =>
  some r6
def jX0_bearableDelay_76 (k22 : Int32 → Int32 → Option Int32) (P : bw_A1) (L : bw_A1) (S : bw_A1) (np : Int32) (nl : Int32) (x1 : Int32) (x2 : Int32) (x3 : Int32) : Option Int32 :=
  bw_let (x3 + 1 : Int32) fun x3_76 =>
  k22 x2 x3_76
def bX0_bearableDelay_22 (k22 : Int32 → Int32 → Option Int32) (P : bw_A1) (L : bw_A1) (S : bw_A1) (np : Int32) (nl : Int32) (x1 : Int32) (x2 : Int32) (x3 : Int32) : Option Int32 :=
  if np ≤ x3 then
    some x2
  else
    if x3 = x1 then
      jX0_bearableDelay_76 k22 P L S np nl x1 x2 x3
    else
      bw_b1 (fX0_isOpen P x3) fun r37 =>
      if r37 = 0 then
        jX0_bearableDelay_76 k22 P L S np nl x1 x2 x3
      else
        bw_b1 (fX3_get 84 14 P x3 2) fun r49 =>
        bw_b1 (fX0_daysOwed L nl x3 x1) fun r55 =>
        bw_let ((bw_min r49 r55) : Int32) fun x4_61 =>
        bw_b1 (fX0_lendableDays P S x3 x4_61) fun r70 =>
        bw_let ((x2 + (x4_61 + r70)) : Int32) fun x2_75 =>
        jX0_bearableDelay_76 k22 P L S np nl x1 x2_75 x3
def lX0_bearableDelay_22 (P : bw_A1) (L : bw_A1) (S : bw_A1) (np : Int32) (nl : Int32) (x1 : Int32) : Nat → Int32 → Int32 → Option Int32
  | 0 => fun _ _ => none
  | n + 1 => bX0_bearableDelay_22  (lX0_bearableDelay_22 P L S np nl x1 n) P L S np nl x1
def fX0_bearableDelay (P : bw_A1) (L : bw_A1) (S : bw_A1) (np : Int32) (nl : Int32) (p1 : Int32) : Option Int32 :=
  bw_b1 (fX0_isOpen P p1) fun r2 =>
  if r2 = 0 then
    some (-1)
  else
    bw_b1 (fX3_get 84 14 P p1 2) fun r16 =>
    lX0_bearableDelay_22 P L S np nl p1 bw_fu r16 0
def jX0_weakestProject_45 (k6 : Int32 → Int32 → Int32 → Option Int32) (P : bw_A1) (L : bw_A1) (S : bw_A1) (np : Int32) (nl : Int32) (x1 : Int32) (x2 : Int32) (x3 : Int32) : Option Int32 :=
  bw_let (x3 + 1 : Int32) fun x3_45 =>
  k6 x1 x2 x3_45
def jX0_weakestProject_40 (k6 : Int32 → Int32 → Int32 → Option Int32) (P : bw_A1) (L : bw_A1) (S : bw_A1) (np : Int32) (nl : Int32) (x3 : Int32) (x4 : Int32) : Option Int32 :=
  jX0_weakestProject_45 k6 P L S np nl x3 x4 x3
def bX0_weakestProject_6 (k6 : Int32 → Int32 → Int32 → Option Int32) (P : bw_A1) (L : bw_A1) (S : bw_A1) (np : Int32) (nl : Int32) (x1 : Int32) (x2 : Int32) (x3 : Int32) : Option Int32 :=
  if np ≤ x3 then
    some x1
  else
    bw_b1 (fX0_bearableDelay P L S np nl x3) fun r16 =>
    bw_b1 (fX0_isOpen P x3) fun r23 =>
    if r23 = 0 then
      jX0_weakestProject_45 k6 P L S np nl x1 x2 x3
    else
      if x1 = (-1) then
        jX0_weakestProject_40 k6 P L S np nl x3 r16
      else
        if x2 ≤ r16 then
          jX0_weakestProject_45 k6 P L S np nl x1 x2 x3
        else
          jX0_weakestProject_40 k6 P L S np nl x3 r16
def lX0_weakestProject_6 (P : bw_A1) (L : bw_A1) (S : bw_A1) (np : Int32) (nl : Int32) : Nat → Int32 → Int32 → Int32 → Option Int32
  | 0 => fun _ _ _ => none
  | n + 1 => bX0_weakestProject_6  (lX0_weakestProject_6 P L S np nl n) P L S np nl
def fX0_weakestProject (P : bw_A1) (L : bw_A1) (S : bw_A1) (np : Int32) (nl : Int32) : Option Int32 :=
  lX0_weakestProject_6 P L S np nl bw_fu (-1) (-1) 0
def jX0_leastDaysLeft_42 (k4 : Int32 → Int32 → Option Int32) (P : bw_A1) (np : Int32) (x1 : Int32) (x2 : Int32) : Option Int32 :=
  bw_let (x2 + 1 : Int32) fun x2_42 =>
  k4 x1 x2_42
def jX0_leastDaysLeft_40 (k4 : Int32 → Int32 → Option Int32) (P : bw_A1) (np : Int32) (x2 : Int32) (x3 : Int32) : Option Int32 :=
  jX0_leastDaysLeft_42 k4 P np x3 x2
def bX0_leastDaysLeft_4 (k4 : Int32 → Int32 → Option Int32) (P : bw_A1) (np : Int32) (x1 : Int32) (x2 : Int32) : Option Int32 :=
  if np ≤ x2 then
    some x1
  else
    bw_b1 (fX3_get 84 14 P x2 2) fun r18 =>
    bw_b1 (fX0_isOpen P x2) fun r24 =>
    if r24 = 0 then
      jX0_leastDaysLeft_42 k4 P np x1 x2
    else
      if x1 = (-1) then
        jX0_leastDaysLeft_40 k4 P np x2 r18
      else
        if x1 ≤ r18 then
          jX0_leastDaysLeft_42 k4 P np x1 x2
        else
          jX0_leastDaysLeft_40 k4 P np x2 r18
def lX0_leastDaysLeft_4 (P : bw_A1) (np : Int32) : Nat → Int32 → Int32 → Option Int32
  | 0 => fun _ _ => none
  | n + 1 => bX0_leastDaysLeft_4  (lX0_leastDaysLeft_4 P np n) P np
def fX0_leastDaysLeft (P : bw_A1) (np : Int32) : Option Int32 :=
  lX0_leastDaysLeft_4 P np bw_fu (-1) 0
