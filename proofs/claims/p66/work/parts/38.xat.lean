/-! throwing: contracts of what always throws from here, the rows of a throw, of a call that throws -/
abbrev xNM : List String := ["java/lang/RuntimeException", "java/lang/Exception"]
theorem xat0t : ∀ w ∈ (vx_atS RX10 309 "java/lang/IndexOutOfBoundsException" xNM).filter goodWord, w ∈ lw_tbl := by decide +kernel
theorem xat1t : ∀ w ∈ (vx_atS RX10 322 "java/lang/IllegalArgumentException" xNM).filter goodWord, w ∈ lw_tbl := by decide +kernel
theorem xat2t : ∀ w ∈ (vx_atS RX10 342 "java/lang/IllegalStateException" xNM).filter goodWord, w ∈ lw_tbl := by decide +kernel
theorem xat0v : ∀ w ∈ (vx_atS RX10 309 "java/lang/IndexOutOfBoundsException" xNM).filter (fun w => !goodWord w), w ∈ lw_tbl ∧ xKind w = true := by decide +kernel
theorem xat1v : ∀ w ∈ (vx_atS RX10 322 "java/lang/IllegalArgumentException" xNM).filter (fun w => !goodWord w), w ∈ lw_tbl ∧ xKind w = true := by decide +kernel
theorem xat2v : ∀ w ∈ (vx_atS RX10 342 "java/lang/IllegalStateException" xNM).filter (fun w => !goodWord w), w ∈ lw_tbl ∧ xKind w = true := by decide +kernel
theorem xat_g {L : List Cond} (h : ∀ w ∈ L.filter goodWord, w ∈ lw_tbl) : ∀ w ∈ L.filter goodWord, w ∈ TBG := fun w hw => List.mem_filter.mpr ⟨h w hw, (List.mem_filter.mp hw).2⟩
theorem xat_w {L : List Cond} (h : ∀ w ∈ L.filter (fun w => !goodWord w), w ∈ lw_tbl ∧ xKind w = true) : ∀ w ∈ L.filter (fun w => !goodWord w), w ∈ xws := fun w hw => List.mem_filter.mpr (h w hw)
theorem xat0g : ∀ w ∈ (vx_atS RX10 309 "java/lang/IndexOutOfBoundsException" xNM).filter goodWord, w ∈ TBG := xat_g xat0t
theorem xat1g : ∀ w ∈ (vx_atS RX10 322 "java/lang/IllegalArgumentException" xNM).filter goodWord, w ∈ TBG := xat_g xat1t
theorem xat2g : ∀ w ∈ (vx_atS RX10 342 "java/lang/IllegalStateException" xNM).filter goodWord, w ∈ TBG := xat_g xat2t
theorem xat0w : ∀ w ∈ (vx_atS RX10 309 "java/lang/IndexOutOfBoundsException" xNM).filter (fun w => !goodWord w), w ∈ xws := xat_w xat0v
theorem xat1w : ∀ w ∈ (vx_atS RX10 322 "java/lang/IllegalArgumentException" xNM).filter (fun w => !goodWord w), w ∈ xws := xat_w xat1v
theorem xat2w : ∀ w ∈ (vx_atS RX10 342 "java/lang/IllegalStateException" xNM).filter (fun w => !goodWord w), w ∈ xws := xat_w xat2v
theorem xat0o : ∀ w ∈ Cond.classLink RX10 305 "java/lang/IndexOutOfBoundsException" :: Cond.initialized "java/lang/IndexOutOfBoundsException" :: vx_atS RX10 309 "java/lang/IndexOutOfBoundsException" xNM, vx_ot w = true := by decide +kernel
theorem xat1o : ∀ w ∈ Cond.classLink RX10 318 "java/lang/IllegalArgumentException" :: Cond.initialized "java/lang/IllegalArgumentException" :: vx_atS RX10 322 "java/lang/IllegalArgumentException" xNM, vx_ot w = true := by decide +kernel
theorem xat2o : ∀ w ∈ Cond.classLink RX10 338 "java/lang/IllegalStateException" :: Cond.initialized "java/lang/IllegalStateException" :: vx_atS RX10 342 "java/lang/IllegalStateException" xNM, vx_ot w = true := by decide +kernel
