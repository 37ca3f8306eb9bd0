def fX3_put (cn : Nat) (cc : Int32) (f : bw_A1) (p1 : Int32) (p2 : Int32) (p3 : Int32) : Option bw_A1 :=
  bw_let (((p1 * cc) + p2) : Int32) fun x4_8 =>
  if x4_8 < 0 then
    some f
  else
    if (Int32.ofNat cn) ≤ x4_8 then
      some f
    else
      bw_b1 (bw_wr cn f x4_8 p3) fun f_32 =>
      some f_32
def jX3_get_31 (cn : Nat) (cc : Int32) (f : bw_A1) : Option Int32 :=
  some 0
def fX3_get (cn : Nat) (cc : Int32) (f : bw_A1) (p1 : Int32) (p2 : Int32) : Option Int32 :=
  bw_let (((p1 * cc) + p2) : Int32) fun x3_8 =>
  if x3_8 < 0 then
    jX3_get_31 cn cc f
  else
    if (Int32.ofNat cn) ≤ x3_8 then
      jX3_get_31 cn cc f
    else
      bw_b1 (bw_rd cn f x3_8) fun v27 =>
      some v27
def fX3_increase (cn : Nat) (cc : Int32) (f : bw_A1) (p1 : Int32) (p2 : Int32) (p3 : Int32) : Option bw_A1 :=
  bw_let (((p1 * cc) + p2) : Int32) fun x4_8 =>
  if x4_8 < 0 then
    some f
  else
    if (Int32.ofNat cn) ≤ x4_8 then
      some f
    else
      bw_b1 (bw_rd cn f x4_8) fun v32 =>
      bw_b1 (bw_wr cn f x4_8 (v32 + p3)) fun f_35 =>
      some f_35
def bX3_removeRow_7 (cn : Nat) (cc : Int32) (k7 : bw_A1 → Int32 → Option bw_A1) (f : bw_A1) (x2 : Int32) : Option bw_A1 :=
  if x2 < 0 then
    some f
  else
    if ((Int32.ofNat cn) - cc) ≤ x2 then
      some f
    else
      bw_b1 (bw_rd cn f (x2 + cc)) fun v40 =>
      bw_b1 (bw_wr cn f x2 v40) fun f_41 =>
      bw_let (x2 + 1 : Int32) fun x2_42 =>
      k7 f_41 x2_42
def lX3_removeRow_7 (cn : Nat) (cc : Int32) : Nat → bw_A1 → Int32 → Option bw_A1
  | 0 => fun _ _ => none
  | n + 1 => bX3_removeRow_7 cn cc (lX3_removeRow_7 cn cc n) 
def fX3_removeRow (cn : Nat) (cc : Int32) (f : bw_A1) (p1 : Int32) : Option bw_A1 :=
  bw_let ((p1 * cc) : Int32) fun x2_6 =>
  lX3_removeRow_7 cn cc bw_fu f x2_6
def bX3_insertRow_17 (cn : Nat) (cc : Int32) (k17 : bw_A1 → Int32 → Option bw_A1) (x2 : Int32) (f : bw_A1) (x3 : Int32) : Option bw_A1 :=
  if x3 < x2 then
    some f
  else
    if x3 < cc then
      some f
    else
      bw_b1 (bw_rd cn f (x3 - cc)) fun v45 =>
      bw_b1 (bw_wr cn f x3 v45) fun f_46 =>
      bw_let (x3 + (-1) : Int32) fun x3_47 =>
      k17 f_46 x3_47
def lX3_insertRow_17 (cn : Nat) (cc : Int32) (x2 : Int32) : Nat → bw_A1 → Int32 → Option bw_A1
  | 0 => fun _ _ => none
  | n + 1 => bX3_insertRow_17 cn cc (lX3_insertRow_17 cn cc x2 n) x2
def fX3_insertRow (cn : Nat) (cc : Int32) (f : bw_A1) (p1 : Int32) : Option bw_A1 :=
  bw_let (((p1 + 1) * cc) : Int32) fun x2_8 =>
  bw_let (((Int32.ofNat cn) - 1) : Int32) fun x3_16 =>
  lX3_insertRow_17 cn cc x2_8 bw_fu f x3_16
