def bc (x : Int32) : Int32 :=
  let v1 := x - (((x.toUInt32 >>> ((1 : Int32).toUInt32 &&& Int32.toUInt32 31)).toInt32) &&& 1431655765)
  let v2 := (v1 &&& 858993459) + (((v1.toUInt32 >>> ((2 : Int32).toUInt32 &&& Int32.toUInt32 31)).toInt32) &&& 858993459)
  let v3 := (v2 + ((v2.toUInt32 >>> ((4 : Int32).toUInt32 &&& Int32.toUInt32 31)).toInt32)) &&& 252645135
  let v4 := v3 + ((v3.toUInt32 >>> ((8 : Int32).toUInt32 &&& Int32.toUInt32 31)).toInt32)
  let v5 := v4 + ((v4.toUInt32 >>> ((16 : Int32).toUInt32 &&& Int32.toUInt32 31)).toInt32)
  v5 &&& 63
theorem bitCount_s (x : Int32) (h : Mem) : fJ6_bitCount_0f7a4 x h = some (bc x, h) := rfl
theorem bc_all : ∀ q, q < 64 → ∀ r, r < 128 → bc (nn (q * 128 + r)) = nn (fb_ct (fun k => (q * 128 + r).testBit k) 13) := by decide +kernel
