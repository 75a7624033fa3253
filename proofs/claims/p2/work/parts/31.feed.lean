def by_P (x : Int64) (k : Int32) : Prop := ((x.toUInt64 >>> (k.toInt64.toUInt64 &&& Int64.toUInt64 63)).toInt64 &&& 255).toInt32 = (x >>> (k.toInt64 &&& 63)).toInt32 &&& 255
theorem by_56 (x : Int64) : by_P x 56 := Int32.toBitVec_inj.mp (bv_byte x.toBitVec 56 (by decide))
theorem by_48 (x : Int64) : by_P x 48 := Int32.toBitVec_inj.mp (bv_byte x.toBitVec 48 (by decide))
theorem by_40 (x : Int64) : by_P x 40 := Int32.toBitVec_inj.mp (bv_byte x.toBitVec 40 (by decide))
theorem by_32 (x : Int64) : by_P x 32 := Int32.toBitVec_inj.mp (bv_byte x.toBitVec 32 (by decide))
theorem by_24 (x : Int64) : by_P x 24 := Int32.toBitVec_inj.mp (bv_byte x.toBitVec 24 (by decide))
theorem by_16 (x : Int64) : by_P x 16 := Int32.toBitVec_inj.mp (bv_byte x.toBitVec 16 (by decide))
theorem by_8 (x : Int64) : by_P x 8 := Int32.toBitVec_inj.mp (bv_byte x.toBitVec 8 (by decide))
theorem by_0 (x : Int64) : by_P x 0 := Int32.toBitVec_inj.mp (bv_byte x.toBitVec 0 (by decide))
