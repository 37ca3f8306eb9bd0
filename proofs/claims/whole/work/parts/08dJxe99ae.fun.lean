def fJxe99ae_isNaN_b9ae7 (p0 : UInt64) : Option Int32 :=
  if (Op.cmpValue (FP.dcmp p0 p0) CmpOp.l) = 0 then
    some 0
  else
    some 1
def fJxe99ae_doubleToLongBits_ccdee (p0 : UInt64) : Option Int64 :=
  bw_b1 (fJxe99ae_isNaN_b9ae7 p0) fun r1 =>
  if r1 = 0 then
    some (UInt64.toInt64 p0)
  else
    some 9221120237041090560
